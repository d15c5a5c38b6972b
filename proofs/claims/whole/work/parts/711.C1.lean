def cv_4 : Int := 1159843021668779879193775521855586647937357759715417654439879720876111806838
theorem vt_4 : V10 (fun j => tb_4.getD j 0) cv_4 1 := by
  refine ⟨⟨0, by decide⟩, fun i hi => ?_⟩
  have h10 : i = 0 ∨ i = 1 ∨ i = 2 ∨ i = 3 ∨ i = 4 ∨ i = 5 ∨ i = 6 ∨ i = 7 ∨ i = 8 ∨ i = 9 := by omega
  rcases h10 with rfl | rfl | rfl | rfl | rfl | rfl | rfl | rfl | rfl | rfl <;> decide
def cv_6 : Int := 40440834346308536858101042469323190826248399146238708352240133220865137265952
theorem vt_6 : V10 (fun j => tb_6.getD j 0) cv_6 1 := by
  refine ⟨⟨0, by decide⟩, fun i hi => ?_⟩
  have h10 : i = 0 ∨ i = 1 ∨ i = 2 ∨ i = 3 ∨ i = 4 ∨ i = 5 ∨ i = 6 ∨ i = 7 ∨ i = 8 ∨ i = 9 := by omega
  rcases h10 with rfl | rfl | rfl | rfl | rfl | rfl | rfl | rfl | rfl | rfl <;> decide
def cv_7 : Int := 25063068953384623474111414158702152701244531502492656460079210482610430750235
theorem vt_7 : V10 (fun j => tb_7.getD j 0) cv_7 1 := by
  refine ⟨⟨0, by decide⟩, fun i hi => ?_⟩
  have h10 : i = 0 ∨ i = 1 ∨ i = 2 ∨ i = 3 ∨ i = 4 ∨ i = 5 ∨ i = 6 ∨ i = 7 ∨ i = 8 ∨ i = 9 := by omega
  rcases h10 with rfl | rfl | rfl | rfl | rfl | rfl | rfl | rfl | rfl | rfl <;> decide
def cv_8 : Int := 16295367250680780974490674513165176452449235426866156013048779062215315747161
theorem vt_8 : V10 (fun j => tb_8.getD j 0) cv_8 1 := by
  refine ⟨⟨0, by decide⟩, fun i hi => ?_⟩
  have h10 : i = 0 ∨ i = 1 ∨ i = 2 ∨ i = 3 ∨ i = 4 ∨ i = 5 ∨ i = 6 ∨ i = 7 ∨ i = 8 ∨ i = 9 := by omega
  rcases h10 with rfl | rfl | rfl | rfl | rfl | rfl | rfl | rfl | rfl | rfl <;> decide
def cv_9 : Int := 54469307008909316920995813868745141605393597292927456921205312896311721017578
theorem vt_9 : V10 (fun j => tb_9.getD j 0) cv_9 1 := by
  refine ⟨⟨0, by decide⟩, fun i hi => ?_⟩
  have h10 : i = 0 ∨ i = 1 ∨ i = 2 ∨ i = 3 ∨ i = 4 ∨ i = 5 ∨ i = 6 ∨ i = 7 ∨ i = 8 ∨ i = 9 := by omega
  rcases h10 with rfl | rfl | rfl | rfl | rfl | rfl | rfl | rfl | rfl | rfl <;> decide
def cv_11 : Int := 0
theorem vt_11 : V10 (fun j => tb_11.getD j 0) cv_11 1 := by
  refine ⟨⟨0, by decide⟩, fun i hi => ?_⟩
  have h10 : i = 0 ∨ i = 1 ∨ i = 2 ∨ i = 3 ∨ i = 4 ∨ i = 5 ∨ i = 6 ∨ i = 7 ∨ i = 8 ∨ i = 9 := by omega
  rcases h10 with rfl | rfl | rfl | rfl | rfl | rfl | rfl | rfl | rfl | rfl <;> decide
def cv_12 : Int := 15112221349535400772501151409588531511454012693041857206046113283949847762202
theorem vt_12 : V10 (fun j => tb_12.getD j 0) cv_12 1 := by
  refine ⟨⟨0, by decide⟩, fun i hi => ?_⟩
  have h10 : i = 0 ∨ i = 1 ∨ i = 2 ∨ i = 3 ∨ i = 4 ∨ i = 5 ∨ i = 6 ∨ i = 7 ∨ i = 8 ∨ i = 9 := by omega
  rcases h10 with rfl | rfl | rfl | rfl | rfl | rfl | rfl | rfl | rfl | rfl <;> decide
def cv_13 : Int := 46316835694926478169428394003475163141307993866256225615783033603165251855960
theorem vt_13 : V10 (fun j => tb_13.getD j 0) cv_13 1 := by
  refine ⟨⟨0, by decide⟩, fun i hi => ?_⟩
  have h10 : i = 0 ∨ i = 1 ∨ i = 2 ∨ i = 3 ∨ i = 4 ∨ i = 5 ∨ i = 6 ∨ i = 7 ∨ i = 8 ∨ i = 9 := by omega
  rcases h10 with rfl | rfl | rfl | rfl | rfl | rfl | rfl | rfl | rfl | rfl <;> decide
theorem ph_8 : ph cv_8 = fD + fD := by
  rw [← ph_cD, ← ph_add, ph_eq, eqP.em]; decide +kernel
theorem ph_5 : ph cv_5 = fD := by rw [← cD_v]; rfl
theorem ph_3 : ph cv_3 = 1 := ph_1
theorem ph_11 : ph cv_11 = 0 := ph_0
theorem ph_9 : ph cv_9 = fE := by rw [← ph_cE, ph_eq, eqP.em]; decide +kernel
theorem ph_7 : ph cv_7 = fG := by rw [← ph_cG, ph_eq, eqP.em]; decide +kernel
theorem ph_4 : ph cv_4 = 1 - fD * fD := by rw [← ph_cO, ph_eq, eqP.em]; decide +kernel
theorem ph_6 : ph cv_6 = (fD - 1) * (fD - 1) := by rw [← ph_cL, ph_eq, eqP.em]; decide +kernel
theorem ph_12 : ph cv_12 = bX := by unfold bX; rw [ph_eq, eqP.em]; decide +kernel
theorem ph_13 : ph cv_13 = bY := by unfold bY; rw [ph_eq, eqP.em]; decide +kernel
set_option maxHeartbeats 8000000 in
theorem v_Cu_add {G : GX} {M : List va_E} {to p q tx ty tz tt px py pz pt qx qy qz qt : Nat} {P Q : Fp × Fp} (hcs : CS1 M) (hto : PQ M to tx ty tz tt) (hp : PC M p px py pz pt P) (hq : PC M q qx qy qz qt Q) (oP : OnP fD P) (oQ : OnP fD Q) (gt : ∀ w ∈ [to, tx, ty, tz, tt], ∀ z ∈ (77 :: 78 :: cuR), w ≠ z) (gp : ∀ w ∈ [p, px, py, pz, pt], ∀ z ∈ (77 :: 78 :: cuR), w ≠ z) (gq : ∀ w ∈ [q, qx, qy, qz, qt], ∀ z ∈ (77 :: 78 :: cuR), w ≠ z) (n_0_1 : tx ≠ ty) (n_0_2 : tx ≠ tz) (n_0_3 : tx ≠ tt) (n_1_2 : ty ≠ tz) (n_1_3 : ty ≠ tt) (n_2_3 : tz ≠ tt) (m_0 : to ≠ tx) (m_1 : to ≠ ty) (m_2 : to ≠ tz) (m_3 : to ≠ tt) (k_tx : K0 ≤ tx) (k_ty : K0 ≤ ty) (k_tz : K0 ≤ tz) (k_tt : K0 ≤ tt)  : CT G mi_Cu_add [.ref 77, .ref to, .ref p, .ref q] M (fun r M' => r = none ∧ CS1 M' ∧ PC M' to tx ty tz tt (ad2 fD P Q) ∧ Kp [94, 95, 96, 97, 98, 99, 100, 102, tx, ty, tz, tt] M M') := by
  obtain ⟨p0, X, Y, Z, T, p1, p2, p3, p4, jp⟩ := hp
  obtain ⟨q0, X', Y', Z', T', q1, q2, q3, q4, jq⟩ := hq
  obtain ⟨t0, t1, t2, t3, t4⟩ := hto
  refine CT.of (by decide) (Nat.le_of_ble_eq_true rfl) ?_
  show TT G mi_Cu_add 0 [(0, .ref 77), (1, .ref to), (2, .ref p), (3, .ref q)] [] M 0 0 _
  refine T_know (fun hK0 => ?_)
  refine T_aload_n (v := .ref 77) d_Cu_add_0 rfl (Or.inr ⟨_, rfl⟩) ?_
  refine T_getfield (v := .ref 94) d_Cu_add_1 fg_Cu_36 hcs.1 rfl ?_
  refine T_aload_n (v := .ref p) d_Cu_add_4 rfl (Or.inr ⟨_, rfl⟩) ?_
  refine T_getfield (v := .ref py) d_Cu_add_5 fg_Cu_64 p0 rfl ?_
  refine T_aload_n (v := .ref p) d_Cu_add_8 rfl (Or.inr ⟨_, rfl⟩) ?_
  refine T_getfield (v := .ref px) d_Cu_add_9 fg_Cu_67 p0 rfl ?_
  refine T_vsub d_Cu_add_12 (jw_Fi_subtract.jo (by decide)) lm_Cu_70 (Nat.le_of_ble_eq_true rfl) (by decide) (by decide) (by decide) (hcs.2.2 94 (by decide)) p2 p1 (by decide) (fun M_1 v_1 e_1 => ?_)
  obtain ⟨x_1, hx_1⟩ : ∃ z : Int, z = (Y - X) := ⟨_, rfl⟩
  rw [← hx_1] at v_1
  refine T_aload_n (v := .ref 77) d_Cu_add_15 rfl (Or.inr ⟨_, rfl⟩) ?_
  have h_2 := (e_1 77 (by decide)).trans (hcs.1)
  refine T_getfield (v := .ref 95) d_Cu_add_16 fg_Cu_40 h_2 rfl ?_
  refine T_aload_n (v := .ref q) d_Cu_add_19 rfl (Or.inr ⟨_, rfl⟩) ?_
  have h_3 := (e_1 q (gq q (by simp) 94 (by decide))).trans (q0)
  refine T_getfield (v := .ref qy) d_Cu_add_20 fg_Cu_64 h_3 rfl ?_
  refine T_aload_n (v := .ref q) d_Cu_add_23 rfl (Or.inr ⟨_, rfl⟩) ?_
  refine T_getfield (v := .ref qx) d_Cu_add_24 fg_Cu_67 h_3 rfl ?_
  have p_4 := (RV.kp (q2) (Ex.kp e_1) (by simp only [List.mem_cons, List.not_mem_nil, or_false]; exact (gq qy (by simp) 94 (by decide))))
  have p_5 := (RV.kp (q1) (Ex.kp e_1) (by simp only [List.mem_cons, List.not_mem_nil, or_false]; exact (gq qx (by simp) 94 (by decide))))
  have p_7 := (RQ.kp ((hcs.2.2 95 (by decide))) (Ex.kp e_1) (by decide))
  refine T_vsub d_Cu_add_27 (jw_Fi_subtract.jo (by decide)) lm_Cu_70 (Nat.le_of_ble_eq_true rfl) (by decide) (by decide) (by decide) p_7 p_4 p_5 (by decide) (fun M_6 v_6 e_6 => ?_)
  obtain ⟨x_7, hx_7⟩ : ∃ z : Int, z = (Y' - X') := ⟨_, rfl⟩
  rw [← hx_7] at v_6
  refine T_aload_n (v := .ref 77) d_Cu_add_30 rfl (Or.inr ⟨_, rfl⟩) ?_
  have h_8 := (e_6 77 (by decide)).trans (h_2)
  refine T_getfield (v := .ref 94) d_Cu_add_31 fg_Cu_36 h_8 rfl ?_
  refine T_aload_n (v := .ref 77) d_Cu_add_34 rfl (Or.inr ⟨_, rfl⟩) ?_
  refine T_getfield (v := .ref 94) d_Cu_add_35 fg_Cu_36 h_8 rfl ?_
  refine T_aload_n (v := .ref 77) d_Cu_add_38 rfl (Or.inr ⟨_, rfl⟩) ?_
  refine T_getfield (v := .ref 95) d_Cu_add_39 fg_Cu_40 h_8 rfl ?_
  have p_9 := (RV.kp (v_1) (Ex.kp e_6) (by decide))
  refine T_vmul d_Cu_add_42 (jw_Fi_multiply.jo (by decide)) lm_Cu_74 (Nat.le_of_ble_eq_true rfl) (by decide) (by decide) (by decide) (Rv.rq p_9) p_9 v_6 (by decide) (fun M_10 v_10 e_10 => ?_)
  obtain ⟨x_10, hx_10⟩ : ∃ z : Int, z = (x_1 * x_7) := ⟨_, rfl⟩
  rw [← hx_10] at v_10
  refine T_aload_n (v := .ref 77) d_Cu_add_45 rfl (Or.inr ⟨_, rfl⟩) ?_
  have h_11 := (e_10 77 (by decide)).trans (h_8)
  refine T_getfield (v := .ref 95) d_Cu_add_46 fg_Cu_40 h_11 rfl ?_
  refine T_aload_n (v := .ref p) d_Cu_add_49 rfl (Or.inr ⟨_, rfl⟩) ?_
  have h_12 := (e_10 p (gp p (by simp) 94 (by decide))).trans ((e_6 p (gp p (by simp) 95 (by decide))).trans ((e_1 p (gp p (by simp) 94 (by decide))).trans (p0)))
  refine T_getfield (v := .ref py) d_Cu_add_50 fg_Cu_64 h_12 rfl ?_
  refine T_aload_n (v := .ref p) d_Cu_add_53 rfl (Or.inr ⟨_, rfl⟩) ?_
  refine T_getfield (v := .ref px) d_Cu_add_54 fg_Cu_67 h_12 rfl ?_
  have p_13 := (RV.kp ((RV.kp ((RV.kp (p2) (Ex.kp e_1) (by simp only [List.mem_cons, List.not_mem_nil, or_false]; exact (gp py (by simp) 94 (by decide))))) (Ex.kp e_6) (by simp only [List.mem_cons, List.not_mem_nil, or_false]; exact (gp py (by simp) 95 (by decide))))) (Ex.kp e_10) (by simp only [List.mem_cons, List.not_mem_nil, or_false]; exact (gp py (by simp) 94 (by decide))))
  have p_14 := (RV.kp ((RV.kp ((RV.kp (p1) (Ex.kp e_1) (by simp only [List.mem_cons, List.not_mem_nil, or_false]; exact (gp px (by simp) 94 (by decide))))) (Ex.kp e_6) (by simp only [List.mem_cons, List.not_mem_nil, or_false]; exact (gp px (by simp) 95 (by decide))))) (Ex.kp e_10) (by simp only [List.mem_cons, List.not_mem_nil, or_false]; exact (gp px (by simp) 94 (by decide))))
  have p_16 := (RV.kp (v_6) (Ex.kp e_10) (by decide))
  refine T_vadd d_Cu_add_57 (jw_Fi_add.jo (by decide)) lm_Cu_77 (Nat.le_of_ble_eq_true rfl) (by decide) (by decide) (by decide) (Rv.rq p_16) p_13 p_14 (by decide) (fun M_15 v_15 e_15 => ?_)
  obtain ⟨x_16, hx_16⟩ : ∃ z : Int, z = (Y + X) := ⟨_, rfl⟩
  rw [← hx_16] at v_15
  refine T_aload_n (v := .ref 77) d_Cu_add_60 rfl (Or.inr ⟨_, rfl⟩) ?_
  have h_17 := (e_15 77 (by decide)).trans (h_11)
  refine T_getfield (v := .ref 96) d_Cu_add_61 fg_Cu_43 h_17 rfl ?_
  refine T_aload_n (v := .ref q) d_Cu_add_64 rfl (Or.inr ⟨_, rfl⟩) ?_
  have h_18 := (e_15 q (gq q (by simp) 95 (by decide))).trans ((e_10 q (gq q (by simp) 94 (by decide))).trans ((e_6 q (gq q (by simp) 95 (by decide))).trans (h_3)))
  refine T_getfield (v := .ref qy) d_Cu_add_65 fg_Cu_64 h_18 rfl ?_
  refine T_aload_n (v := .ref q) d_Cu_add_68 rfl (Or.inr ⟨_, rfl⟩) ?_
  refine T_getfield (v := .ref qx) d_Cu_add_69 fg_Cu_67 h_18 rfl ?_
  have p_19 := (RV.kp ((RV.kp ((RV.kp (p_4) (Ex.kp e_6) (by simp only [List.mem_cons, List.not_mem_nil, or_false]; exact (gq qy (by simp) 95 (by decide))))) (Ex.kp e_10) (by simp only [List.mem_cons, List.not_mem_nil, or_false]; exact (gq qy (by simp) 94 (by decide))))) (Ex.kp e_15) (by simp only [List.mem_cons, List.not_mem_nil, or_false]; exact (gq qy (by simp) 95 (by decide))))
  have p_20 := (RV.kp ((RV.kp ((RV.kp (p_5) (Ex.kp e_6) (by simp only [List.mem_cons, List.not_mem_nil, or_false]; exact (gq qx (by simp) 95 (by decide))))) (Ex.kp e_10) (by simp only [List.mem_cons, List.not_mem_nil, or_false]; exact (gq qx (by simp) 94 (by decide))))) (Ex.kp e_15) (by simp only [List.mem_cons, List.not_mem_nil, or_false]; exact (gq qx (by simp) 95 (by decide))))
  have p_22 := (RQ.kp ((RQ.kp ((RQ.kp ((RQ.kp ((hcs.2.2 96 (by decide))) (Ex.kp e_1) (by decide))) (Ex.kp e_6) (by decide))) (Ex.kp e_10) (by decide))) (Ex.kp e_15) (by decide))
  refine T_vadd d_Cu_add_72 (jw_Fi_add.jo (by decide)) lm_Cu_77 (Nat.le_of_ble_eq_true rfl) (by decide) (by decide) (by decide) p_22 p_19 p_20 (by decide) (fun M_21 v_21 e_21 => ?_)
  obtain ⟨x_22, hx_22⟩ : ∃ z : Int, z = (Y' + X') := ⟨_, rfl⟩
  rw [← hx_22] at v_21
  refine T_aload_n (v := .ref 77) d_Cu_add_75 rfl (Or.inr ⟨_, rfl⟩) ?_
  have h_23 := (e_21 77 (by decide)).trans (h_17)
  refine T_getfield (v := .ref 95) d_Cu_add_76 fg_Cu_40 h_23 rfl ?_
  refine T_aload_n (v := .ref 77) d_Cu_add_79 rfl (Or.inr ⟨_, rfl⟩) ?_
  refine T_getfield (v := .ref 95) d_Cu_add_80 fg_Cu_40 h_23 rfl ?_
  refine T_aload_n (v := .ref 77) d_Cu_add_83 rfl (Or.inr ⟨_, rfl⟩) ?_
  refine T_getfield (v := .ref 96) d_Cu_add_84 fg_Cu_43 h_23 rfl ?_
  have p_24 := (RV.kp (v_15) (Ex.kp e_21) (by decide))
  refine T_vmul d_Cu_add_87 (jw_Fi_multiply.jo (by decide)) lm_Cu_74 (Nat.le_of_ble_eq_true rfl) (by decide) (by decide) (by decide) (Rv.rq p_24) p_24 v_21 (by decide) (fun M_25 v_25 e_25 => ?_)
  obtain ⟨x_25, hx_25⟩ : ∃ z : Int, z = (x_16 * x_22) := ⟨_, rfl⟩
  rw [← hx_25] at v_25
  refine T_aload_n (v := .ref 77) d_Cu_add_90 rfl (Or.inr ⟨_, rfl⟩) ?_
  have h_26 := (e_25 77 (by decide)).trans (h_23)
  refine T_getfield (v := .ref 96) d_Cu_add_91 fg_Cu_43 h_26 rfl ?_
  refine T_aload_n (v := .ref p) d_Cu_add_94 rfl (Or.inr ⟨_, rfl⟩) ?_
  have h_27 := (e_25 p (gp p (by simp) 95 (by decide))).trans ((e_21 p (gp p (by simp) 96 (by decide))).trans ((e_15 p (gp p (by simp) 95 (by decide))).trans (h_12)))
  refine T_getfield (v := .ref pt) d_Cu_add_95 fg_Cu_80 h_27 rfl ?_
  refine T_aload_n (v := .ref q) d_Cu_add_98 rfl (Or.inr ⟨_, rfl⟩) ?_
  have h_28 := (e_25 q (gq q (by simp) 95 (by decide))).trans ((e_21 q (gq q (by simp) 96 (by decide))).trans (h_18))
  refine T_getfield (v := .ref qt) d_Cu_add_99 fg_Cu_80 h_28 rfl ?_
  have p_29 := (RV.kp ((RV.kp ((RV.kp ((RV.kp ((RV.kp ((RV.kp (p4) (Ex.kp e_1) (by simp only [List.mem_cons, List.not_mem_nil, or_false]; exact (gp pt (by simp) 94 (by decide))))) (Ex.kp e_6) (by simp only [List.mem_cons, List.not_mem_nil, or_false]; exact (gp pt (by simp) 95 (by decide))))) (Ex.kp e_10) (by simp only [List.mem_cons, List.not_mem_nil, or_false]; exact (gp pt (by simp) 94 (by decide))))) (Ex.kp e_15) (by simp only [List.mem_cons, List.not_mem_nil, or_false]; exact (gp pt (by simp) 95 (by decide))))) (Ex.kp e_21) (by simp only [List.mem_cons, List.not_mem_nil, or_false]; exact (gp pt (by simp) 96 (by decide))))) (Ex.kp e_25) (by simp only [List.mem_cons, List.not_mem_nil, or_false]; exact (gp pt (by simp) 95 (by decide))))
  have p_30 := (RV.kp ((RV.kp ((RV.kp ((RV.kp ((RV.kp ((RV.kp (q4) (Ex.kp e_1) (by simp only [List.mem_cons, List.not_mem_nil, or_false]; exact (gq qt (by simp) 94 (by decide))))) (Ex.kp e_6) (by simp only [List.mem_cons, List.not_mem_nil, or_false]; exact (gq qt (by simp) 95 (by decide))))) (Ex.kp e_10) (by simp only [List.mem_cons, List.not_mem_nil, or_false]; exact (gq qt (by simp) 94 (by decide))))) (Ex.kp e_15) (by simp only [List.mem_cons, List.not_mem_nil, or_false]; exact (gq qt (by simp) 95 (by decide))))) (Ex.kp e_21) (by simp only [List.mem_cons, List.not_mem_nil, or_false]; exact (gq qt (by simp) 96 (by decide))))) (Ex.kp e_25) (by simp only [List.mem_cons, List.not_mem_nil, or_false]; exact (gq qt (by simp) 95 (by decide))))
  have p_32 := (RV.kp (v_21) (Ex.kp e_25) (by decide))
  refine T_vmul d_Cu_add_102 (jw_Fi_multiply.jo (by decide)) lm_Cu_74 (Nat.le_of_ble_eq_true rfl) (by decide) (by decide) (by decide) (Rv.rq p_32) p_29 p_30 (by decide) (fun M_31 v_31 e_31 => ?_)
  obtain ⟨x_32, hx_32⟩ : ∃ z : Int, z = (T * T') := ⟨_, rfl⟩
  rw [← hx_32] at v_31
  refine T_aload_n (v := .ref 77) d_Cu_add_105 rfl (Or.inr ⟨_, rfl⟩) ?_
  have h_33 := (e_31 77 (by decide)).trans (h_26)
  refine T_getfield (v := .ref 96) d_Cu_add_106 fg_Cu_43 h_33 rfl ?_
  refine T_aload_n (v := .ref 77) d_Cu_add_109 rfl (Or.inr ⟨_, rfl⟩) ?_
  refine T_getfield (v := .ref 96) d_Cu_add_110 fg_Cu_43 h_33 rfl ?_
  refine T_getstatic (q := ("PasswordGate$Curve", "TWICE_D", "[J", .ref 8)) d_Cu_add_113 (List.mem_of_getElem? (i := 8) rfl) gs_Cu_83 (show 8 < K0 by decide) ?_
  have c_34 : RV M 8 cv_8 1 := ⟨_, hK0 8 (by decide), vt_8⟩
  have p_35 := (RV.kp ((RV.kp ((RV.kp ((RV.kp ((RV.kp ((RV.kp ((RV.kp (c_34) (Ex.kp e_1) (by decide))) (Ex.kp e_6) (by decide))) (Ex.kp e_10) (by decide))) (Ex.kp e_15) (by decide))) (Ex.kp e_21) (by decide))) (Ex.kp e_25) (by decide))) (Ex.kp e_31) (by decide))
  refine T_vmul d_Cu_add_116 (jw_Fi_multiply.jo (by decide)) lm_Cu_74 (Nat.le_of_ble_eq_true rfl) (by decide) (by decide) (by decide) (Rv.rq v_31) v_31 p_35 (by decide) (fun M_36 v_36 e_36 => ?_)
  obtain ⟨x_36, hx_36⟩ : ∃ z : Int, z = (x_32 * cv_8) := ⟨_, rfl⟩
  rw [← hx_36] at v_36
  refine T_aload_n (v := .ref 77) d_Cu_add_119 rfl (Or.inr ⟨_, rfl⟩) ?_
  have h_37 := (e_36 77 (by decide)).trans (h_33)
  refine T_getfield (v := .ref 102) d_Cu_add_120 fg_Cu_61 h_37 rfl ?_
  refine T_aload_n (v := .ref p) d_Cu_add_123 rfl (Or.inr ⟨_, rfl⟩) ?_
  have h_38 := (e_36 p (gp p (by simp) 96 (by decide))).trans ((e_31 p (gp p (by simp) 96 (by decide))).trans (h_27))
  refine T_getfield (v := .ref pz) d_Cu_add_124 fg_Cu_86 h_38 rfl ?_
  refine T_aload_n (v := .ref q) d_Cu_add_127 rfl (Or.inr ⟨_, rfl⟩) ?_
  have h_39 := (e_36 q (gq q (by simp) 96 (by decide))).trans ((e_31 q (gq q (by simp) 96 (by decide))).trans (h_28))
  refine T_getfield (v := .ref qz) d_Cu_add_128 fg_Cu_86 h_39 rfl ?_
  have p_40 := (RV.kp ((RV.kp ((RV.kp ((RV.kp ((RV.kp ((RV.kp ((RV.kp ((RV.kp (p3) (Ex.kp e_1) (by simp only [List.mem_cons, List.not_mem_nil, or_false]; exact (gp pz (by simp) 94 (by decide))))) (Ex.kp e_6) (by simp only [List.mem_cons, List.not_mem_nil, or_false]; exact (gp pz (by simp) 95 (by decide))))) (Ex.kp e_10) (by simp only [List.mem_cons, List.not_mem_nil, or_false]; exact (gp pz (by simp) 94 (by decide))))) (Ex.kp e_15) (by simp only [List.mem_cons, List.not_mem_nil, or_false]; exact (gp pz (by simp) 95 (by decide))))) (Ex.kp e_21) (by simp only [List.mem_cons, List.not_mem_nil, or_false]; exact (gp pz (by simp) 96 (by decide))))) (Ex.kp e_25) (by simp only [List.mem_cons, List.not_mem_nil, or_false]; exact (gp pz (by simp) 95 (by decide))))) (Ex.kp e_31) (by simp only [List.mem_cons, List.not_mem_nil, or_false]; exact (gp pz (by simp) 96 (by decide))))) (Ex.kp e_36) (by simp only [List.mem_cons, List.not_mem_nil, or_false]; exact (gp pz (by simp) 96 (by decide))))
  have p_41 := (RV.kp ((RV.kp ((RV.kp ((RV.kp ((RV.kp ((RV.kp ((RV.kp ((RV.kp (q3) (Ex.kp e_1) (by simp only [List.mem_cons, List.not_mem_nil, or_false]; exact (gq qz (by simp) 94 (by decide))))) (Ex.kp e_6) (by simp only [List.mem_cons, List.not_mem_nil, or_false]; exact (gq qz (by simp) 95 (by decide))))) (Ex.kp e_10) (by simp only [List.mem_cons, List.not_mem_nil, or_false]; exact (gq qz (by simp) 94 (by decide))))) (Ex.kp e_15) (by simp only [List.mem_cons, List.not_mem_nil, or_false]; exact (gq qz (by simp) 95 (by decide))))) (Ex.kp e_21) (by simp only [List.mem_cons, List.not_mem_nil, or_false]; exact (gq qz (by simp) 96 (by decide))))) (Ex.kp e_25) (by simp only [List.mem_cons, List.not_mem_nil, or_false]; exact (gq qz (by simp) 95 (by decide))))) (Ex.kp e_31) (by simp only [List.mem_cons, List.not_mem_nil, or_false]; exact (gq qz (by simp) 96 (by decide))))) (Ex.kp e_36) (by simp only [List.mem_cons, List.not_mem_nil, or_false]; exact (gq qz (by simp) 96 (by decide))))
  have p_43 := (RQ.kp ((RQ.kp ((RQ.kp ((RQ.kp ((RQ.kp ((RQ.kp ((RQ.kp ((RQ.kp ((hcs.2.2 102 (by decide))) (Ex.kp e_1) (by decide))) (Ex.kp e_6) (by decide))) (Ex.kp e_10) (by decide))) (Ex.kp e_15) (by decide))) (Ex.kp e_21) (by decide))) (Ex.kp e_25) (by decide))) (Ex.kp e_31) (by decide))) (Ex.kp e_36) (by decide))
  refine T_vmul d_Cu_add_131 (jw_Fi_multiply.jo (by decide)) lm_Cu_74 (Nat.le_of_ble_eq_true rfl) (by decide) (by decide) (by decide) p_43 p_40 p_41 (by decide) (fun M_42 v_42 e_42 => ?_)
  obtain ⟨x_43, hx_43⟩ : ∃ z : Int, z = (Z * Z') := ⟨_, rfl⟩
  rw [← hx_43] at v_42
  refine T_aload_n (v := .ref 77) d_Cu_add_134 rfl (Or.inr ⟨_, rfl⟩) ?_
  have h_44 := (e_42 77 (by decide)).trans (h_37)
  refine T_getfield (v := .ref 102) d_Cu_add_135 fg_Cu_61 h_44 rfl ?_
  refine T_aload_n (v := .ref 77) d_Cu_add_138 rfl (Or.inr ⟨_, rfl⟩) ?_
  refine T_getfield (v := .ref 102) d_Cu_add_139 fg_Cu_61 h_44 rfl ?_
  refine T_aload_n (v := .ref 77) d_Cu_add_142 rfl (Or.inr ⟨_, rfl⟩) ?_
  refine T_getfield (v := .ref 102) d_Cu_add_143 fg_Cu_61 h_44 rfl ?_
  refine T_vadd d_Cu_add_146 (jw_Fi_add.jo (by decide)) lm_Cu_77 (Nat.le_of_ble_eq_true rfl) (by decide) (by decide) (by decide) (Rv.rq v_42) v_42 v_42 (by decide) (fun M_45 v_45 e_45 => ?_)
  obtain ⟨x_45, hx_45⟩ : ∃ z : Int, z = (x_43 + x_43) := ⟨_, rfl⟩
  rw [← hx_45] at v_45
  refine T_aload_n (v := .ref 77) d_Cu_add_149 rfl (Or.inr ⟨_, rfl⟩) ?_
  have h_46 := (e_45 77 (by decide)).trans (h_44)
  refine T_getfield (v := .ref 97) d_Cu_add_150 fg_Cu_46 h_46 rfl ?_
  refine T_aload_n (v := .ref 77) d_Cu_add_153 rfl (Or.inr ⟨_, rfl⟩) ?_
  refine T_getfield (v := .ref 95) d_Cu_add_154 fg_Cu_40 h_46 rfl ?_
  refine T_aload_n (v := .ref 77) d_Cu_add_157 rfl (Or.inr ⟨_, rfl⟩) ?_
  refine T_getfield (v := .ref 94) d_Cu_add_158 fg_Cu_36 h_46 rfl ?_
  have p_47 := (RV.kp ((RV.kp ((RV.kp ((RV.kp (v_25) (Ex.kp e_31) (by decide))) (Ex.kp e_36) (by decide))) (Ex.kp e_42) (by decide))) (Ex.kp e_45) (by decide))
  have p_48 := (RV.kp ((RV.kp ((RV.kp ((RV.kp ((RV.kp ((RV.kp ((RV.kp (v_10) (Ex.kp e_15) (by decide))) (Ex.kp e_21) (by decide))) (Ex.kp e_25) (by decide))) (Ex.kp e_31) (by decide))) (Ex.kp e_36) (by decide))) (Ex.kp e_42) (by decide))) (Ex.kp e_45) (by decide))
  have p_50 := (RQ.kp ((RQ.kp ((RQ.kp ((RQ.kp ((RQ.kp ((RQ.kp ((RQ.kp ((RQ.kp ((RQ.kp ((RQ.kp ((hcs.2.2 97 (by decide))) (Ex.kp e_1) (by decide))) (Ex.kp e_6) (by decide))) (Ex.kp e_10) (by decide))) (Ex.kp e_15) (by decide))) (Ex.kp e_21) (by decide))) (Ex.kp e_25) (by decide))) (Ex.kp e_31) (by decide))) (Ex.kp e_36) (by decide))) (Ex.kp e_42) (by decide))) (Ex.kp e_45) (by decide))
  refine T_vsub d_Cu_add_161 (jw_Fi_subtract.jo (by decide)) lm_Cu_70 (Nat.le_of_ble_eq_true rfl) (by decide) (by decide) (by decide) p_50 p_47 p_48 (by decide) (fun M_49 v_49 e_49 => ?_)
  obtain ⟨x_50, hx_50⟩ : ∃ z : Int, z = (x_25 - x_10) := ⟨_, rfl⟩
  rw [← hx_50] at v_49
  refine T_aload_n (v := .ref 77) d_Cu_add_164 rfl (Or.inr ⟨_, rfl⟩) ?_
  have h_51 := (e_49 77 (by decide)).trans (h_46)
  refine T_getfield (v := .ref 98) d_Cu_add_165 fg_Cu_49 h_51 rfl ?_
  refine T_aload_n (v := .ref 77) d_Cu_add_168 rfl (Or.inr ⟨_, rfl⟩) ?_
  refine T_getfield (v := .ref 102) d_Cu_add_169 fg_Cu_61 h_51 rfl ?_
  refine T_aload_n (v := .ref 77) d_Cu_add_172 rfl (Or.inr ⟨_, rfl⟩) ?_
  refine T_getfield (v := .ref 96) d_Cu_add_173 fg_Cu_43 h_51 rfl ?_
  have p_52 := (RV.kp (v_45) (Ex.kp e_49) (by decide))
  have p_53 := (RV.kp ((RV.kp ((RV.kp (v_36) (Ex.kp e_42) (by decide))) (Ex.kp e_45) (by decide))) (Ex.kp e_49) (by decide))
  have p_55 := (RQ.kp ((RQ.kp ((RQ.kp ((RQ.kp ((RQ.kp ((RQ.kp ((RQ.kp ((RQ.kp ((RQ.kp ((RQ.kp ((RQ.kp ((hcs.2.2 98 (by decide))) (Ex.kp e_1) (by decide))) (Ex.kp e_6) (by decide))) (Ex.kp e_10) (by decide))) (Ex.kp e_15) (by decide))) (Ex.kp e_21) (by decide))) (Ex.kp e_25) (by decide))) (Ex.kp e_31) (by decide))) (Ex.kp e_36) (by decide))) (Ex.kp e_42) (by decide))) (Ex.kp e_45) (by decide))) (Ex.kp e_49) (by decide))
  refine T_vsub d_Cu_add_176 (jw_Fi_subtract.jo (by decide)) lm_Cu_70 (Nat.le_of_ble_eq_true rfl) (by decide) (by decide) (by decide) p_55 p_52 p_53 (by decide) (fun M_54 v_54 e_54 => ?_)
  obtain ⟨x_55, hx_55⟩ : ∃ z : Int, z = (x_45 - x_36) := ⟨_, rfl⟩
  rw [← hx_55] at v_54
  refine T_aload_n (v := .ref 77) d_Cu_add_179 rfl (Or.inr ⟨_, rfl⟩) ?_
  have h_56 := (e_54 77 (by decide)).trans (h_51)
  refine T_getfield (v := .ref 99) d_Cu_add_180 fg_Cu_52 h_56 rfl ?_
  refine T_aload_n (v := .ref 77) d_Cu_add_183 rfl (Or.inr ⟨_, rfl⟩) ?_
  refine T_getfield (v := .ref 102) d_Cu_add_184 fg_Cu_61 h_56 rfl ?_
  refine T_aload_n (v := .ref 77) d_Cu_add_187 rfl (Or.inr ⟨_, rfl⟩) ?_
  refine T_getfield (v := .ref 96) d_Cu_add_188 fg_Cu_43 h_56 rfl ?_
  have p_57 := (RV.kp (p_52) (Ex.kp e_54) (by decide))
  have p_58 := (RV.kp (p_53) (Ex.kp e_54) (by decide))
  have p_60 := (RQ.kp ((RQ.kp ((RQ.kp ((RQ.kp ((RQ.kp ((RQ.kp ((RQ.kp ((RQ.kp ((RQ.kp ((RQ.kp ((RQ.kp ((RQ.kp ((hcs.2.2 99 (by decide))) (Ex.kp e_1) (by decide))) (Ex.kp e_6) (by decide))) (Ex.kp e_10) (by decide))) (Ex.kp e_15) (by decide))) (Ex.kp e_21) (by decide))) (Ex.kp e_25) (by decide))) (Ex.kp e_31) (by decide))) (Ex.kp e_36) (by decide))) (Ex.kp e_42) (by decide))) (Ex.kp e_45) (by decide))) (Ex.kp e_49) (by decide))) (Ex.kp e_54) (by decide))
  refine T_vadd d_Cu_add_191 (jw_Fi_add.jo (by decide)) lm_Cu_77 (Nat.le_of_ble_eq_true rfl) (by decide) (by decide) (by decide) p_60 p_57 p_58 (by decide) (fun M_59 v_59 e_59 => ?_)
  obtain ⟨x_60, hx_60⟩ : ∃ z : Int, z = (x_45 + x_36) := ⟨_, rfl⟩
  rw [← hx_60] at v_59
  refine T_aload_n (v := .ref 77) d_Cu_add_194 rfl (Or.inr ⟨_, rfl⟩) ?_
  have h_61 := (e_59 77 (by decide)).trans (h_56)
  refine T_getfield (v := .ref 100) d_Cu_add_195 fg_Cu_55 h_61 rfl ?_
  refine T_aload_n (v := .ref 77) d_Cu_add_198 rfl (Or.inr ⟨_, rfl⟩) ?_
  refine T_getfield (v := .ref 95) d_Cu_add_199 fg_Cu_40 h_61 rfl ?_
  refine T_aload_n (v := .ref 77) d_Cu_add_202 rfl (Or.inr ⟨_, rfl⟩) ?_
  refine T_getfield (v := .ref 94) d_Cu_add_203 fg_Cu_36 h_61 rfl ?_
  have p_62 := (RV.kp ((RV.kp ((RV.kp (p_47) (Ex.kp e_49) (by decide))) (Ex.kp e_54) (by decide))) (Ex.kp e_59) (by decide))
  have p_63 := (RV.kp ((RV.kp ((RV.kp (p_48) (Ex.kp e_49) (by decide))) (Ex.kp e_54) (by decide))) (Ex.kp e_59) (by decide))
  have p_65 := (RQ.kp ((RQ.kp ((RQ.kp ((RQ.kp ((RQ.kp ((RQ.kp ((RQ.kp ((RQ.kp ((RQ.kp ((RQ.kp ((RQ.kp ((RQ.kp ((RQ.kp ((hcs.2.2 100 (by decide))) (Ex.kp e_1) (by decide))) (Ex.kp e_6) (by decide))) (Ex.kp e_10) (by decide))) (Ex.kp e_15) (by decide))) (Ex.kp e_21) (by decide))) (Ex.kp e_25) (by decide))) (Ex.kp e_31) (by decide))) (Ex.kp e_36) (by decide))) (Ex.kp e_42) (by decide))) (Ex.kp e_45) (by decide))) (Ex.kp e_49) (by decide))) (Ex.kp e_54) (by decide))) (Ex.kp e_59) (by decide))
  refine T_vadd d_Cu_add_206 (jw_Fi_add.jo (by decide)) lm_Cu_77 (Nat.le_of_ble_eq_true rfl) (by decide) (by decide) (by decide) p_65 p_62 p_63 (by decide) (fun M_64 v_64 e_64 => ?_)
  obtain ⟨x_65, hx_65⟩ : ∃ z : Int, z = (x_25 + x_10) := ⟨_, rfl⟩
  rw [← hx_65] at v_64
  refine T_aload_n (v := .ref to) d_Cu_add_209 rfl (Or.inr ⟨_, rfl⟩) ?_
  have h_66 := (e_64 to (gt to (by simp) 100 (by decide))).trans ((e_59 to (gt to (by simp) 99 (by decide))).trans ((e_54 to (gt to (by simp) 98 (by decide))).trans ((e_49 to (gt to (by simp) 97 (by decide))).trans ((e_45 to (gt to (by simp) 102 (by decide))).trans ((e_42 to (gt to (by simp) 102 (by decide))).trans ((e_36 to (gt to (by simp) 96 (by decide))).trans ((e_31 to (gt to (by simp) 96 (by decide))).trans ((e_25 to (gt to (by simp) 95 (by decide))).trans ((e_21 to (gt to (by simp) 96 (by decide))).trans ((e_15 to (gt to (by simp) 95 (by decide))).trans ((e_10 to (gt to (by simp) 94 (by decide))).trans ((e_6 to (gt to (by simp) 95 (by decide))).trans ((e_1 to (gt to (by simp) 94 (by decide))).trans (t0))))))))))))))
  refine T_getfield (v := .ref tx) d_Cu_add_210 fg_Cu_67 h_66 rfl ?_
  refine T_aload_n (v := .ref 77) d_Cu_add_213 rfl (Or.inr ⟨_, rfl⟩) ?_
  have h_67 := (e_64 77 (by decide)).trans (h_61)
  refine T_getfield (v := .ref 97) d_Cu_add_214 fg_Cu_46 h_67 rfl ?_
  refine T_aload_n (v := .ref 77) d_Cu_add_217 rfl (Or.inr ⟨_, rfl⟩) ?_
  refine T_getfield (v := .ref 98) d_Cu_add_218 fg_Cu_49 h_67 rfl ?_
  have p_68 := (RV.kp ((RV.kp ((RV.kp (v_49) (Ex.kp e_54) (by decide))) (Ex.kp e_59) (by decide))) (Ex.kp e_64) (by decide))
  have p_69 := (RV.kp ((RV.kp (v_54) (Ex.kp e_59) (by decide))) (Ex.kp e_64) (by decide))
  have p_71 := (RQ.kp ((RQ.kp ((RQ.kp ((RQ.kp ((RQ.kp ((RQ.kp ((RQ.kp ((RQ.kp ((RQ.kp ((RQ.kp ((RQ.kp ((RQ.kp ((RQ.kp ((RQ.kp (t1) (Ex.kp e_1) (by simp only [List.mem_cons, List.not_mem_nil, or_false]; exact (gt tx (by simp) 94 (by decide))))) (Ex.kp e_6) (by simp only [List.mem_cons, List.not_mem_nil, or_false]; exact (gt tx (by simp) 95 (by decide))))) (Ex.kp e_10) (by simp only [List.mem_cons, List.not_mem_nil, or_false]; exact (gt tx (by simp) 94 (by decide))))) (Ex.kp e_15) (by simp only [List.mem_cons, List.not_mem_nil, or_false]; exact (gt tx (by simp) 95 (by decide))))) (Ex.kp e_21) (by simp only [List.mem_cons, List.not_mem_nil, or_false]; exact (gt tx (by simp) 96 (by decide))))) (Ex.kp e_25) (by simp only [List.mem_cons, List.not_mem_nil, or_false]; exact (gt tx (by simp) 95 (by decide))))) (Ex.kp e_31) (by simp only [List.mem_cons, List.not_mem_nil, or_false]; exact (gt tx (by simp) 96 (by decide))))) (Ex.kp e_36) (by simp only [List.mem_cons, List.not_mem_nil, or_false]; exact (gt tx (by simp) 96 (by decide))))) (Ex.kp e_42) (by simp only [List.mem_cons, List.not_mem_nil, or_false]; exact (gt tx (by simp) 102 (by decide))))) (Ex.kp e_45) (by simp only [List.mem_cons, List.not_mem_nil, or_false]; exact (gt tx (by simp) 102 (by decide))))) (Ex.kp e_49) (by simp only [List.mem_cons, List.not_mem_nil, or_false]; exact (gt tx (by simp) 97 (by decide))))) (Ex.kp e_54) (by simp only [List.mem_cons, List.not_mem_nil, or_false]; exact (gt tx (by simp) 98 (by decide))))) (Ex.kp e_59) (by simp only [List.mem_cons, List.not_mem_nil, or_false]; exact (gt tx (by simp) 99 (by decide))))) (Ex.kp e_64) (by simp only [List.mem_cons, List.not_mem_nil, or_false]; exact (gt tx (by simp) 100 (by decide))))
  refine T_vmul d_Cu_add_221 (jw_Fi_multiply.jo (by decide)) lm_Cu_74 (Nat.le_of_ble_eq_true rfl) (by decide) (by decide) k_tx p_71 p_68 p_69 (by decide) (fun M_70 v_70 e_70 => ?_)
  obtain ⟨x_71, hx_71⟩ : ∃ z : Int, z = (x_50 * x_55) := ⟨_, rfl⟩
  rw [← hx_71] at v_70
  refine T_aload_n (v := .ref to) d_Cu_add_224 rfl (Or.inr ⟨_, rfl⟩) ?_
  have h_72 := (e_70 to m_0).trans (h_66)
  refine T_getfield (v := .ref ty) d_Cu_add_225 fg_Cu_64 h_72 rfl ?_
  refine T_aload_n (v := .ref 77) d_Cu_add_228 rfl (Or.inr ⟨_, rfl⟩) ?_
  have h_73 := (e_70 77 (Ne.symm (gt tx (by simp) 77 (by decide)))).trans (h_67)
  refine T_getfield (v := .ref 99) d_Cu_add_229 fg_Cu_52 h_73 rfl ?_
  refine T_aload_n (v := .ref 77) d_Cu_add_232 rfl (Or.inr ⟨_, rfl⟩) ?_
  refine T_getfield (v := .ref 100) d_Cu_add_233 fg_Cu_55 h_73 rfl ?_
  have p_74 := (RV.kp ((RV.kp (v_59) (Ex.kp e_64) (by decide))) (Ex.kp e_70) (by simp only [List.mem_cons, List.not_mem_nil, or_false]; exact (Ne.symm (gt tx (by simp) 99 (by decide)))))
  have p_75 := (RV.kp (v_64) (Ex.kp e_70) (by simp only [List.mem_cons, List.not_mem_nil, or_false]; exact (Ne.symm (gt tx (by simp) 100 (by decide)))))
  have p_77 := (RQ.kp ((RQ.kp ((RQ.kp ((RQ.kp ((RQ.kp ((RQ.kp ((RQ.kp ((RQ.kp ((RQ.kp ((RQ.kp ((RQ.kp ((RQ.kp ((RQ.kp ((RQ.kp ((RQ.kp (t2) (Ex.kp e_1) (by simp only [List.mem_cons, List.not_mem_nil, or_false]; exact (gt ty (by simp) 94 (by decide))))) (Ex.kp e_6) (by simp only [List.mem_cons, List.not_mem_nil, or_false]; exact (gt ty (by simp) 95 (by decide))))) (Ex.kp e_10) (by simp only [List.mem_cons, List.not_mem_nil, or_false]; exact (gt ty (by simp) 94 (by decide))))) (Ex.kp e_15) (by simp only [List.mem_cons, List.not_mem_nil, or_false]; exact (gt ty (by simp) 95 (by decide))))) (Ex.kp e_21) (by simp only [List.mem_cons, List.not_mem_nil, or_false]; exact (gt ty (by simp) 96 (by decide))))) (Ex.kp e_25) (by simp only [List.mem_cons, List.not_mem_nil, or_false]; exact (gt ty (by simp) 95 (by decide))))) (Ex.kp e_31) (by simp only [List.mem_cons, List.not_mem_nil, or_false]; exact (gt ty (by simp) 96 (by decide))))) (Ex.kp e_36) (by simp only [List.mem_cons, List.not_mem_nil, or_false]; exact (gt ty (by simp) 96 (by decide))))) (Ex.kp e_42) (by simp only [List.mem_cons, List.not_mem_nil, or_false]; exact (gt ty (by simp) 102 (by decide))))) (Ex.kp e_45) (by simp only [List.mem_cons, List.not_mem_nil, or_false]; exact (gt ty (by simp) 102 (by decide))))) (Ex.kp e_49) (by simp only [List.mem_cons, List.not_mem_nil, or_false]; exact (gt ty (by simp) 97 (by decide))))) (Ex.kp e_54) (by simp only [List.mem_cons, List.not_mem_nil, or_false]; exact (gt ty (by simp) 98 (by decide))))) (Ex.kp e_59) (by simp only [List.mem_cons, List.not_mem_nil, or_false]; exact (gt ty (by simp) 99 (by decide))))) (Ex.kp e_64) (by simp only [List.mem_cons, List.not_mem_nil, or_false]; exact (gt ty (by simp) 100 (by decide))))) (Ex.kp e_70) (by simp only [List.mem_cons, List.not_mem_nil, or_false]; exact (Ne.symm n_0_1)))
  refine T_vmul d_Cu_add_236 (jw_Fi_multiply.jo (by decide)) lm_Cu_74 (Nat.le_of_ble_eq_true rfl) (by decide) (by decide) k_ty p_77 p_74 p_75 (by decide) (fun M_76 v_76 e_76 => ?_)
  obtain ⟨x_77, hx_77⟩ : ∃ z : Int, z = (x_60 * x_65) := ⟨_, rfl⟩
  rw [← hx_77] at v_76
  refine T_aload_n (v := .ref to) d_Cu_add_239 rfl (Or.inr ⟨_, rfl⟩) ?_
  have h_78 := (e_76 to m_1).trans (h_72)
  refine T_getfield (v := .ref tt) d_Cu_add_240 fg_Cu_80 h_78 rfl ?_
  refine T_aload_n (v := .ref 77) d_Cu_add_243 rfl (Or.inr ⟨_, rfl⟩) ?_
  have h_79 := (e_76 77 (Ne.symm (gt ty (by simp) 77 (by decide)))).trans (h_73)
  refine T_getfield (v := .ref 97) d_Cu_add_244 fg_Cu_46 h_79 rfl ?_
  refine T_aload_n (v := .ref 77) d_Cu_add_247 rfl (Or.inr ⟨_, rfl⟩) ?_
  refine T_getfield (v := .ref 100) d_Cu_add_248 fg_Cu_55 h_79 rfl ?_
  have p_80 := (RV.kp ((RV.kp (p_68) (Ex.kp e_70) (by simp only [List.mem_cons, List.not_mem_nil, or_false]; exact (Ne.symm (gt tx (by simp) 97 (by decide)))))) (Ex.kp e_76) (by simp only [List.mem_cons, List.not_mem_nil, or_false]; exact (Ne.symm (gt ty (by simp) 97 (by decide)))))
  have p_81 := (RV.kp (p_75) (Ex.kp e_76) (by simp only [List.mem_cons, List.not_mem_nil, or_false]; exact (Ne.symm (gt ty (by simp) 100 (by decide)))))
  have p_83 := (RQ.kp ((RQ.kp ((RQ.kp ((RQ.kp ((RQ.kp ((RQ.kp ((RQ.kp ((RQ.kp ((RQ.kp ((RQ.kp ((RQ.kp ((RQ.kp ((RQ.kp ((RQ.kp ((RQ.kp ((RQ.kp (t4) (Ex.kp e_1) (by simp only [List.mem_cons, List.not_mem_nil, or_false]; exact (gt tt (by simp) 94 (by decide))))) (Ex.kp e_6) (by simp only [List.mem_cons, List.not_mem_nil, or_false]; exact (gt tt (by simp) 95 (by decide))))) (Ex.kp e_10) (by simp only [List.mem_cons, List.not_mem_nil, or_false]; exact (gt tt (by simp) 94 (by decide))))) (Ex.kp e_15) (by simp only [List.mem_cons, List.not_mem_nil, or_false]; exact (gt tt (by simp) 95 (by decide))))) (Ex.kp e_21) (by simp only [List.mem_cons, List.not_mem_nil, or_false]; exact (gt tt (by simp) 96 (by decide))))) (Ex.kp e_25) (by simp only [List.mem_cons, List.not_mem_nil, or_false]; exact (gt tt (by simp) 95 (by decide))))) (Ex.kp e_31) (by simp only [List.mem_cons, List.not_mem_nil, or_false]; exact (gt tt (by simp) 96 (by decide))))) (Ex.kp e_36) (by simp only [List.mem_cons, List.not_mem_nil, or_false]; exact (gt tt (by simp) 96 (by decide))))) (Ex.kp e_42) (by simp only [List.mem_cons, List.not_mem_nil, or_false]; exact (gt tt (by simp) 102 (by decide))))) (Ex.kp e_45) (by simp only [List.mem_cons, List.not_mem_nil, or_false]; exact (gt tt (by simp) 102 (by decide))))) (Ex.kp e_49) (by simp only [List.mem_cons, List.not_mem_nil, or_false]; exact (gt tt (by simp) 97 (by decide))))) (Ex.kp e_54) (by simp only [List.mem_cons, List.not_mem_nil, or_false]; exact (gt tt (by simp) 98 (by decide))))) (Ex.kp e_59) (by simp only [List.mem_cons, List.not_mem_nil, or_false]; exact (gt tt (by simp) 99 (by decide))))) (Ex.kp e_64) (by simp only [List.mem_cons, List.not_mem_nil, or_false]; exact (gt tt (by simp) 100 (by decide))))) (Ex.kp e_70) (by simp only [List.mem_cons, List.not_mem_nil, or_false]; exact (Ne.symm n_0_3)))) (Ex.kp e_76) (by simp only [List.mem_cons, List.not_mem_nil, or_false]; exact (Ne.symm n_1_3)))
  refine T_vmul d_Cu_add_251 (jw_Fi_multiply.jo (by decide)) lm_Cu_74 (Nat.le_of_ble_eq_true rfl) (by decide) (by decide) k_tt p_83 p_80 p_81 (by decide) (fun M_82 v_82 e_82 => ?_)
  obtain ⟨x_83, hx_83⟩ : ∃ z : Int, z = (x_50 * x_65) := ⟨_, rfl⟩
  rw [← hx_83] at v_82
  refine T_aload_n (v := .ref to) d_Cu_add_254 rfl (Or.inr ⟨_, rfl⟩) ?_
  have h_84 := (e_82 to m_3).trans (h_78)
  refine T_getfield (v := .ref tz) d_Cu_add_255 fg_Cu_86 h_84 rfl ?_
  refine T_aload_n (v := .ref 77) d_Cu_add_258 rfl (Or.inr ⟨_, rfl⟩) ?_
  have h_85 := (e_82 77 (Ne.symm (gt tt (by simp) 77 (by decide)))).trans (h_79)
  refine T_getfield (v := .ref 98) d_Cu_add_259 fg_Cu_49 h_85 rfl ?_
  refine T_aload_n (v := .ref 77) d_Cu_add_262 rfl (Or.inr ⟨_, rfl⟩) ?_
  refine T_getfield (v := .ref 99) d_Cu_add_263 fg_Cu_52 h_85 rfl ?_
  have p_86 := (RV.kp ((RV.kp ((RV.kp (p_69) (Ex.kp e_70) (by simp only [List.mem_cons, List.not_mem_nil, or_false]; exact (Ne.symm (gt tx (by simp) 98 (by decide)))))) (Ex.kp e_76) (by simp only [List.mem_cons, List.not_mem_nil, or_false]; exact (Ne.symm (gt ty (by simp) 98 (by decide)))))) (Ex.kp e_82) (by simp only [List.mem_cons, List.not_mem_nil, or_false]; exact (Ne.symm (gt tt (by simp) 98 (by decide)))))
  have p_87 := (RV.kp ((RV.kp (p_74) (Ex.kp e_76) (by simp only [List.mem_cons, List.not_mem_nil, or_false]; exact (Ne.symm (gt ty (by simp) 99 (by decide)))))) (Ex.kp e_82) (by simp only [List.mem_cons, List.not_mem_nil, or_false]; exact (Ne.symm (gt tt (by simp) 99 (by decide)))))
  have p_89 := (RQ.kp ((RQ.kp ((RQ.kp ((RQ.kp ((RQ.kp ((RQ.kp ((RQ.kp ((RQ.kp ((RQ.kp ((RQ.kp ((RQ.kp ((RQ.kp ((RQ.kp ((RQ.kp ((RQ.kp ((RQ.kp ((RQ.kp (t3) (Ex.kp e_1) (by simp only [List.mem_cons, List.not_mem_nil, or_false]; exact (gt tz (by simp) 94 (by decide))))) (Ex.kp e_6) (by simp only [List.mem_cons, List.not_mem_nil, or_false]; exact (gt tz (by simp) 95 (by decide))))) (Ex.kp e_10) (by simp only [List.mem_cons, List.not_mem_nil, or_false]; exact (gt tz (by simp) 94 (by decide))))) (Ex.kp e_15) (by simp only [List.mem_cons, List.not_mem_nil, or_false]; exact (gt tz (by simp) 95 (by decide))))) (Ex.kp e_21) (by simp only [List.mem_cons, List.not_mem_nil, or_false]; exact (gt tz (by simp) 96 (by decide))))) (Ex.kp e_25) (by simp only [List.mem_cons, List.not_mem_nil, or_false]; exact (gt tz (by simp) 95 (by decide))))) (Ex.kp e_31) (by simp only [List.mem_cons, List.not_mem_nil, or_false]; exact (gt tz (by simp) 96 (by decide))))) (Ex.kp e_36) (by simp only [List.mem_cons, List.not_mem_nil, or_false]; exact (gt tz (by simp) 96 (by decide))))) (Ex.kp e_42) (by simp only [List.mem_cons, List.not_mem_nil, or_false]; exact (gt tz (by simp) 102 (by decide))))) (Ex.kp e_45) (by simp only [List.mem_cons, List.not_mem_nil, or_false]; exact (gt tz (by simp) 102 (by decide))))) (Ex.kp e_49) (by simp only [List.mem_cons, List.not_mem_nil, or_false]; exact (gt tz (by simp) 97 (by decide))))) (Ex.kp e_54) (by simp only [List.mem_cons, List.not_mem_nil, or_false]; exact (gt tz (by simp) 98 (by decide))))) (Ex.kp e_59) (by simp only [List.mem_cons, List.not_mem_nil, or_false]; exact (gt tz (by simp) 99 (by decide))))) (Ex.kp e_64) (by simp only [List.mem_cons, List.not_mem_nil, or_false]; exact (gt tz (by simp) 100 (by decide))))) (Ex.kp e_70) (by simp only [List.mem_cons, List.not_mem_nil, or_false]; exact (Ne.symm n_0_2)))) (Ex.kp e_76) (by simp only [List.mem_cons, List.not_mem_nil, or_false]; exact (Ne.symm n_1_2)))) (Ex.kp e_82) (by simp only [List.mem_cons, List.not_mem_nil, or_false]; exact n_2_3))
  refine T_vmul d_Cu_add_266 (jw_Fi_multiply.jo (by decide)) lm_Cu_74 (Nat.le_of_ble_eq_true rfl) (by decide) (by decide) k_tz p_89 p_86 p_87 (by decide) (fun M_88 v_88 e_88 => ?_)
  obtain ⟨x_89, hx_89⟩ : ∃ z : Int, z = (x_55 * x_60) := ⟨_, rfl⟩
  rw [← hx_89] at v_88
  have ja : ph x_10 = (ph Y - ph X) * (ph Y' - ph X') := by rw [hx_10, ph_mul, hx_1, ph_sub, hx_7, ph_sub]
  have jb : ph x_25 = (ph Y + ph X) * (ph Y' + ph X') := by rw [hx_25, ph_mul, hx_16, ph_add, hx_22, ph_add]
  have jc : ph x_36 = ph T * ph T' * ph cv_8 := by rw [hx_36, ph_mul, hx_32, ph_mul]
  have js : ph x_45 = ph Z * ph Z' + ph Z * ph Z' := by rw [hx_45, ph_add, hx_43, ph_mul]
  have je := congrArg ph hx_50
  have jf := congrArg ph hx_55
  have jg := congrArg ph hx_60
  have jh := congrArg ph hx_65
  rw [ph_sub] at je jf; rw [ph_add] at jg jh
  have J := pj_addC oP oQ jp jq ph_8 ja jb jc js je jf jg jh
  have J2 : Pj (ad2 fD P Q) (ph x_71) (ph x_77) (ph x_89) (ph x_83) := by rw [hx_71, hx_77, hx_89, hx_83, ph_mul, ph_mul, ph_mul, ph_mul]; exact J
  have p_90 := (RV.kp ((RV.kp ((RV.kp ((RV.kp ((RV.kp ((RV.kp (p_57) (Ex.kp e_59) (by decide))) (Ex.kp e_64) (by decide))) (Ex.kp e_70) (by simp only [List.mem_cons, List.not_mem_nil, or_false]; exact (Ne.symm (gt tx (by simp) 102 (by decide)))))) (Ex.kp e_76) (by simp only [List.mem_cons, List.not_mem_nil, or_false]; exact (Ne.symm (gt ty (by simp) 102 (by decide)))))) (Ex.kp e_82) (by simp only [List.mem_cons, List.not_mem_nil, or_false]; exact (Ne.symm (gt tt (by simp) 102 (by decide)))))) (Ex.kp e_88) (by simp only [List.mem_cons, List.not_mem_nil, or_false]; exact (Ne.symm (gt tz (by simp) 102 (by decide)))))
  have p_91 := (RQ.kp ((RQ.kp ((RQ.kp ((RQ.kp ((RQ.kp ((RQ.kp ((RQ.kp ((RQ.kp ((RQ.kp ((RQ.kp ((RQ.kp ((RQ.kp ((RQ.kp ((RQ.kp ((RQ.kp ((RQ.kp ((RQ.kp ((RQ.kp ((hcs.2.2 101 (by decide))) (Ex.kp e_1) (by decide))) (Ex.kp e_6) (by decide))) (Ex.kp e_10) (by decide))) (Ex.kp e_15) (by decide))) (Ex.kp e_21) (by decide))) (Ex.kp e_25) (by decide))) (Ex.kp e_31) (by decide))) (Ex.kp e_36) (by decide))) (Ex.kp e_42) (by decide))) (Ex.kp e_45) (by decide))) (Ex.kp e_49) (by decide))) (Ex.kp e_54) (by decide))) (Ex.kp e_59) (by decide))) (Ex.kp e_64) (by decide))) (Ex.kp e_70) (by simp only [List.mem_cons, List.not_mem_nil, or_false]; exact (Ne.symm (gt tx (by simp) 101 (by decide)))))) (Ex.kp e_76) (by simp only [List.mem_cons, List.not_mem_nil, or_false]; exact (Ne.symm (gt ty (by simp) 101 (by decide)))))) (Ex.kp e_82) (by simp only [List.mem_cons, List.not_mem_nil, or_false]; exact (Ne.symm (gt tt (by simp) 101 (by decide)))))) (Ex.kp e_88) (by simp only [List.mem_cons, List.not_mem_nil, or_false]; exact (Ne.symm (gt tz (by simp) 101 (by decide)))))
  have p_92 := (RV.kp ((RV.kp (p_81) (Ex.kp e_82) (by simp only [List.mem_cons, List.not_mem_nil, or_false]; exact (Ne.symm (gt tt (by simp) 100 (by decide)))))) (Ex.kp e_88) (by simp only [List.mem_cons, List.not_mem_nil, or_false]; exact (Ne.symm (gt tz (by simp) 100 (by decide)))))
  have p_93 := (RV.kp (p_87) (Ex.kp e_88) (by simp only [List.mem_cons, List.not_mem_nil, or_false]; exact (Ne.symm (gt tz (by simp) 99 (by decide)))))
  have p_94 := (RV.kp (p_86) (Ex.kp e_88) (by simp only [List.mem_cons, List.not_mem_nil, or_false]; exact (Ne.symm (gt tz (by simp) 98 (by decide)))))
  have p_95 := (RV.kp ((RV.kp (p_80) (Ex.kp e_82) (by simp only [List.mem_cons, List.not_mem_nil, or_false]; exact (Ne.symm (gt tt (by simp) 97 (by decide)))))) (Ex.kp e_88) (by simp only [List.mem_cons, List.not_mem_nil, or_false]; exact (Ne.symm (gt tz (by simp) 97 (by decide)))))
  have p_96 := (RV.kp ((RV.kp ((RV.kp ((RV.kp ((RV.kp ((RV.kp (p_58) (Ex.kp e_59) (by decide))) (Ex.kp e_64) (by decide))) (Ex.kp e_70) (by simp only [List.mem_cons, List.not_mem_nil, or_false]; exact (Ne.symm (gt tx (by simp) 96 (by decide)))))) (Ex.kp e_76) (by simp only [List.mem_cons, List.not_mem_nil, or_false]; exact (Ne.symm (gt ty (by simp) 96 (by decide)))))) (Ex.kp e_82) (by simp only [List.mem_cons, List.not_mem_nil, or_false]; exact (Ne.symm (gt tt (by simp) 96 (by decide)))))) (Ex.kp e_88) (by simp only [List.mem_cons, List.not_mem_nil, or_false]; exact (Ne.symm (gt tz (by simp) 96 (by decide)))))
  have p_97 := (RV.kp ((RV.kp ((RV.kp ((RV.kp ((RV.kp (p_62) (Ex.kp e_64) (by decide))) (Ex.kp e_70) (by simp only [List.mem_cons, List.not_mem_nil, or_false]; exact (Ne.symm (gt tx (by simp) 95 (by decide)))))) (Ex.kp e_76) (by simp only [List.mem_cons, List.not_mem_nil, or_false]; exact (Ne.symm (gt ty (by simp) 95 (by decide)))))) (Ex.kp e_82) (by simp only [List.mem_cons, List.not_mem_nil, or_false]; exact (Ne.symm (gt tt (by simp) 95 (by decide)))))) (Ex.kp e_88) (by simp only [List.mem_cons, List.not_mem_nil, or_false]; exact (Ne.symm (gt tz (by simp) 95 (by decide)))))
  have p_98 := (RV.kp ((RV.kp ((RV.kp ((RV.kp ((RV.kp (p_63) (Ex.kp e_64) (by decide))) (Ex.kp e_70) (by simp only [List.mem_cons, List.not_mem_nil, or_false]; exact (Ne.symm (gt tx (by simp) 94 (by decide)))))) (Ex.kp e_76) (by simp only [List.mem_cons, List.not_mem_nil, or_false]; exact (Ne.symm (gt ty (by simp) 94 (by decide)))))) (Ex.kp e_82) (by simp only [List.mem_cons, List.not_mem_nil, or_false]; exact (Ne.symm (gt tt (by simp) 94 (by decide)))))) (Ex.kp e_88) (by simp only [List.mem_cons, List.not_mem_nil, or_false]; exact (Ne.symm (gt tz (by simp) 94 (by decide)))))
  have p_99 := (RQ.kp ((RQ.kp ((RQ.kp ((RQ.kp ((RQ.kp ((RQ.kp ((RQ.kp ((RQ.kp ((RQ.kp ((RQ.kp ((RQ.kp ((RQ.kp ((RQ.kp ((RQ.kp ((RQ.kp ((RQ.kp ((RQ.kp ((RQ.kp ((hcs.2.2 85 (by decide))) (Ex.kp e_1) (by decide))) (Ex.kp e_6) (by decide))) (Ex.kp e_10) (by decide))) (Ex.kp e_15) (by decide))) (Ex.kp e_21) (by decide))) (Ex.kp e_25) (by decide))) (Ex.kp e_31) (by decide))) (Ex.kp e_36) (by decide))) (Ex.kp e_42) (by decide))) (Ex.kp e_45) (by decide))) (Ex.kp e_49) (by decide))) (Ex.kp e_54) (by decide))) (Ex.kp e_59) (by decide))) (Ex.kp e_64) (by decide))) (Ex.kp e_70) (by simp only [List.mem_cons, List.not_mem_nil, or_false]; exact (Ne.symm (gt tx (by simp) 85 (by decide)))))) (Ex.kp e_76) (by simp only [List.mem_cons, List.not_mem_nil, or_false]; exact (Ne.symm (gt ty (by simp) 85 (by decide)))))) (Ex.kp e_82) (by simp only [List.mem_cons, List.not_mem_nil, or_false]; exact (Ne.symm (gt tt (by simp) 85 (by decide)))))) (Ex.kp e_88) (by simp only [List.mem_cons, List.not_mem_nil, or_false]; exact (Ne.symm (gt tz (by simp) 85 (by decide)))))
  have p_100 := (RQ.kp ((RQ.kp ((RQ.kp ((RQ.kp ((RQ.kp ((RQ.kp ((RQ.kp ((RQ.kp ((RQ.kp ((RQ.kp ((RQ.kp ((RQ.kp ((RQ.kp ((RQ.kp ((RQ.kp ((RQ.kp ((RQ.kp ((RQ.kp ((hcs.2.2 84 (by decide))) (Ex.kp e_1) (by decide))) (Ex.kp e_6) (by decide))) (Ex.kp e_10) (by decide))) (Ex.kp e_15) (by decide))) (Ex.kp e_21) (by decide))) (Ex.kp e_25) (by decide))) (Ex.kp e_31) (by decide))) (Ex.kp e_36) (by decide))) (Ex.kp e_42) (by decide))) (Ex.kp e_45) (by decide))) (Ex.kp e_49) (by decide))) (Ex.kp e_54) (by decide))) (Ex.kp e_59) (by decide))) (Ex.kp e_64) (by decide))) (Ex.kp e_70) (by simp only [List.mem_cons, List.not_mem_nil, or_false]; exact (Ne.symm (gt tx (by simp) 84 (by decide)))))) (Ex.kp e_76) (by simp only [List.mem_cons, List.not_mem_nil, or_false]; exact (Ne.symm (gt ty (by simp) 84 (by decide)))))) (Ex.kp e_82) (by simp only [List.mem_cons, List.not_mem_nil, or_false]; exact (Ne.symm (gt tt (by simp) 84 (by decide)))))) (Ex.kp e_88) (by simp only [List.mem_cons, List.not_mem_nil, or_false]; exact (Ne.symm (gt tz (by simp) 84 (by decide)))))
  have p_101 := (RQ.kp ((RQ.kp ((RQ.kp ((RQ.kp ((RQ.kp ((RQ.kp ((RQ.kp ((RQ.kp ((RQ.kp ((RQ.kp ((RQ.kp ((RQ.kp ((RQ.kp ((RQ.kp ((RQ.kp ((RQ.kp ((RQ.kp ((RQ.kp ((hcs.2.2 83 (by decide))) (Ex.kp e_1) (by decide))) (Ex.kp e_6) (by decide))) (Ex.kp e_10) (by decide))) (Ex.kp e_15) (by decide))) (Ex.kp e_21) (by decide))) (Ex.kp e_25) (by decide))) (Ex.kp e_31) (by decide))) (Ex.kp e_36) (by decide))) (Ex.kp e_42) (by decide))) (Ex.kp e_45) (by decide))) (Ex.kp e_49) (by decide))) (Ex.kp e_54) (by decide))) (Ex.kp e_59) (by decide))) (Ex.kp e_64) (by decide))) (Ex.kp e_70) (by simp only [List.mem_cons, List.not_mem_nil, or_false]; exact (Ne.symm (gt tx (by simp) 83 (by decide)))))) (Ex.kp e_76) (by simp only [List.mem_cons, List.not_mem_nil, or_false]; exact (Ne.symm (gt ty (by simp) 83 (by decide)))))) (Ex.kp e_82) (by simp only [List.mem_cons, List.not_mem_nil, or_false]; exact (Ne.symm (gt tt (by simp) 83 (by decide)))))) (Ex.kp e_88) (by simp only [List.mem_cons, List.not_mem_nil, or_false]; exact (Ne.symm (gt tz (by simp) 83 (by decide)))))
  have p_102 := (RQ.kp ((RQ.kp ((RQ.kp ((RQ.kp ((RQ.kp ((RQ.kp ((RQ.kp ((RQ.kp ((RQ.kp ((RQ.kp ((RQ.kp ((RQ.kp ((RQ.kp ((RQ.kp ((RQ.kp ((RQ.kp ((RQ.kp ((RQ.kp ((hcs.2.2 82 (by decide))) (Ex.kp e_1) (by decide))) (Ex.kp e_6) (by decide))) (Ex.kp e_10) (by decide))) (Ex.kp e_15) (by decide))) (Ex.kp e_21) (by decide))) (Ex.kp e_25) (by decide))) (Ex.kp e_31) (by decide))) (Ex.kp e_36) (by decide))) (Ex.kp e_42) (by decide))) (Ex.kp e_45) (by decide))) (Ex.kp e_49) (by decide))) (Ex.kp e_54) (by decide))) (Ex.kp e_59) (by decide))) (Ex.kp e_64) (by decide))) (Ex.kp e_70) (by simp only [List.mem_cons, List.not_mem_nil, or_false]; exact (Ne.symm (gt tx (by simp) 82 (by decide)))))) (Ex.kp e_76) (by simp only [List.mem_cons, List.not_mem_nil, or_false]; exact (Ne.symm (gt ty (by simp) 82 (by decide)))))) (Ex.kp e_82) (by simp only [List.mem_cons, List.not_mem_nil, or_false]; exact (Ne.symm (gt tt (by simp) 82 (by decide)))))) (Ex.kp e_88) (by simp only [List.mem_cons, List.not_mem_nil, or_false]; exact (Ne.symm (gt tz (by simp) 82 (by decide)))))
  have p_103 := (RQ.kp ((RQ.kp ((RQ.kp ((RQ.kp ((RQ.kp ((RQ.kp ((RQ.kp ((RQ.kp ((RQ.kp ((RQ.kp ((RQ.kp ((RQ.kp ((RQ.kp ((RQ.kp ((RQ.kp ((RQ.kp ((RQ.kp ((RQ.kp ((hcs.2.2 81 (by decide))) (Ex.kp e_1) (by decide))) (Ex.kp e_6) (by decide))) (Ex.kp e_10) (by decide))) (Ex.kp e_15) (by decide))) (Ex.kp e_21) (by decide))) (Ex.kp e_25) (by decide))) (Ex.kp e_31) (by decide))) (Ex.kp e_36) (by decide))) (Ex.kp e_42) (by decide))) (Ex.kp e_45) (by decide))) (Ex.kp e_49) (by decide))) (Ex.kp e_54) (by decide))) (Ex.kp e_59) (by decide))) (Ex.kp e_64) (by decide))) (Ex.kp e_70) (by simp only [List.mem_cons, List.not_mem_nil, or_false]; exact (Ne.symm (gt tx (by simp) 81 (by decide)))))) (Ex.kp e_76) (by simp only [List.mem_cons, List.not_mem_nil, or_false]; exact (Ne.symm (gt ty (by simp) 81 (by decide)))))) (Ex.kp e_82) (by simp only [List.mem_cons, List.not_mem_nil, or_false]; exact (Ne.symm (gt tt (by simp) 81 (by decide)))))) (Ex.kp e_88) (by simp only [List.mem_cons, List.not_mem_nil, or_false]; exact (Ne.symm (gt tz (by simp) 81 (by decide)))))
  have p_104 := (RQ.kp ((RQ.kp ((RQ.kp ((RQ.kp ((RQ.kp ((RQ.kp ((RQ.kp ((RQ.kp ((RQ.kp ((RQ.kp ((RQ.kp ((RQ.kp ((RQ.kp ((RQ.kp ((RQ.kp ((RQ.kp ((RQ.kp ((RQ.kp ((hcs.2.2 80 (by decide))) (Ex.kp e_1) (by decide))) (Ex.kp e_6) (by decide))) (Ex.kp e_10) (by decide))) (Ex.kp e_15) (by decide))) (Ex.kp e_21) (by decide))) (Ex.kp e_25) (by decide))) (Ex.kp e_31) (by decide))) (Ex.kp e_36) (by decide))) (Ex.kp e_42) (by decide))) (Ex.kp e_45) (by decide))) (Ex.kp e_49) (by decide))) (Ex.kp e_54) (by decide))) (Ex.kp e_59) (by decide))) (Ex.kp e_64) (by decide))) (Ex.kp e_70) (by simp only [List.mem_cons, List.not_mem_nil, or_false]; exact (Ne.symm (gt tx (by simp) 80 (by decide)))))) (Ex.kp e_76) (by simp only [List.mem_cons, List.not_mem_nil, or_false]; exact (Ne.symm (gt ty (by simp) 80 (by decide)))))) (Ex.kp e_82) (by simp only [List.mem_cons, List.not_mem_nil, or_false]; exact (Ne.symm (gt tt (by simp) 80 (by decide)))))) (Ex.kp e_88) (by simp only [List.mem_cons, List.not_mem_nil, or_false]; exact (Ne.symm (gt tz (by simp) 80 (by decide)))))
  have p_105 := (RQ.kp ((RQ.kp ((RQ.kp ((RQ.kp ((RQ.kp ((RQ.kp ((RQ.kp ((RQ.kp ((RQ.kp ((RQ.kp ((RQ.kp ((RQ.kp ((RQ.kp ((RQ.kp ((RQ.kp ((RQ.kp ((RQ.kp ((RQ.kp ((hcs.2.2 79 (by decide))) (Ex.kp e_1) (by decide))) (Ex.kp e_6) (by decide))) (Ex.kp e_10) (by decide))) (Ex.kp e_15) (by decide))) (Ex.kp e_21) (by decide))) (Ex.kp e_25) (by decide))) (Ex.kp e_31) (by decide))) (Ex.kp e_36) (by decide))) (Ex.kp e_42) (by decide))) (Ex.kp e_45) (by decide))) (Ex.kp e_49) (by decide))) (Ex.kp e_54) (by decide))) (Ex.kp e_59) (by decide))) (Ex.kp e_64) (by decide))) (Ex.kp e_70) (by simp only [List.mem_cons, List.not_mem_nil, or_false]; exact (Ne.symm (gt tx (by simp) 79 (by decide)))))) (Ex.kp e_76) (by simp only [List.mem_cons, List.not_mem_nil, or_false]; exact (Ne.symm (gt ty (by simp) 79 (by decide)))))) (Ex.kp e_82) (by simp only [List.mem_cons, List.not_mem_nil, or_false]; exact (Ne.symm (gt tt (by simp) 79 (by decide)))))) (Ex.kp e_88) (by simp only [List.mem_cons, List.not_mem_nil, or_false]; exact (Ne.symm (gt tz (by simp) 79 (by decide)))))
  have h_106 := (e_88 77 (Ne.symm (gt tz (by simp) 77 (by decide)))).trans (h_85)
  have h_107 := (e_88 78 (Ne.symm (gt tz (by simp) 78 (by decide)))).trans ((e_82 78 (Ne.symm (gt tt (by simp) 78 (by decide)))).trans ((e_76 78 (Ne.symm (gt ty (by simp) 78 (by decide)))).trans ((e_70 78 (Ne.symm (gt tx (by simp) 78 (by decide)))).trans ((e_64 78 (by decide)).trans ((e_59 78 (by decide)).trans ((e_54 78 (by decide)).trans ((e_49 78 (by decide)).trans ((e_45 78 (by decide)).trans ((e_42 78 (by decide)).trans ((e_36 78 (by decide)).trans ((e_31 78 (by decide)).trans ((e_25 78 (by decide)).trans ((e_21 78 (by decide)).trans ((e_15 78 (by decide)).trans ((e_10 78 (by decide)).trans ((e_6 78 (by decide)).trans ((e_1 78 (by decide)).trans (hcs.2.1))))))))))))))))))
  have h_108 := (e_88 to m_2).trans (h_84)
  have p_109 := (RV.kp ((RV.kp ((RV.kp (v_70) (Ex.kp e_76) (by simp only [List.mem_cons, List.not_mem_nil, or_false]; exact n_0_1))) (Ex.kp e_82) (by simp only [List.mem_cons, List.not_mem_nil, or_false]; exact n_0_3))) (Ex.kp e_88) (by simp only [List.mem_cons, List.not_mem_nil, or_false]; exact n_0_2))
  have p_110 := (RV.kp ((RV.kp (v_76) (Ex.kp e_82) (by simp only [List.mem_cons, List.not_mem_nil, or_false]; exact n_1_3))) (Ex.kp e_88) (by simp only [List.mem_cons, List.not_mem_nil, or_false]; exact n_1_2))
  have p_111 := (RV.kp (v_82) (Ex.kp e_88) (by simp only [List.mem_cons, List.not_mem_nil, or_false]; exact (Ne.symm n_2_3)))
  exact T_vret d_Cu_add_269 rfl (by decide) (by decide) ⟨rfl, ⟨h_106, h_107, (List.forall_mem_cons.mpr ⟨p_105, (List.forall_mem_cons.mpr ⟨p_104, (List.forall_mem_cons.mpr ⟨p_103, (List.forall_mem_cons.mpr ⟨p_102, (List.forall_mem_cons.mpr ⟨p_101, (List.forall_mem_cons.mpr ⟨p_100, (List.forall_mem_cons.mpr ⟨p_99, (List.forall_mem_cons.mpr ⟨(Rv.rq p_98), (List.forall_mem_cons.mpr ⟨(Rv.rq p_97), (List.forall_mem_cons.mpr ⟨(Rv.rq p_96), (List.forall_mem_cons.mpr ⟨(Rv.rq p_95), (List.forall_mem_cons.mpr ⟨(Rv.rq p_94), (List.forall_mem_cons.mpr ⟨(Rv.rq p_93), (List.forall_mem_cons.mpr ⟨(Rv.rq p_92), (List.forall_mem_cons.mpr ⟨p_91, (List.forall_mem_cons.mpr ⟨(Rv.rq p_90), (fun _ h => absurd h (List.not_mem_nil))⟩)⟩)⟩)⟩)⟩)⟩)⟩)⟩)⟩)⟩)⟩)⟩)⟩)⟩)⟩)⟩)⟩, ⟨h_108, _, _, _, _, Rv.up p_109 (by decide), p_110, v_88, p_111, J2⟩, (Kp.ex (Kp.ex (Kp.ex (Kp.ex (Kp.ex (Kp.ex (Kp.ex (Kp.ex (Kp.ex (Kp.ex (Kp.ex (Kp.ex (Kp.ex (Kp.ex (Kp.ex (Kp.ex (Kp.ex (Kp.ex (Kp.rf : Kp [94, 95, 96, 97, 98, 99, 100, 102, tx, ty, tz, tt] M M) e_1 (by simp)) e_6 (by simp)) e_10 (by simp)) e_15 (by simp)) e_21 (by simp)) e_25 (by simp)) e_31 (by simp)) e_36 (by simp)) e_42 (by simp)) e_45 (by simp)) e_49 (by simp)) e_54 (by simp)) e_59 (by simp)) e_64 (by simp)) e_70 (by simp)) e_76 (by simp)) e_82 (by simp)) e_88 (by simp))⟩
theorem pj_dblC {P : Fp × Fp} (hP : OnP fD P) {X Y Z a b c e0 e g f h x y z : Fp} (hz : Z ≠ 0) (hX : X = P.1 * Z) (hY : Y = P.2 * Z) (ha : a = X * X) (hb : b = Y * Y) (hc : c = Z * Z + Z * Z) (h0 : e0 = (X + Y) * (X + Y)) (hh : h = a + b) (he : e = e0 - h) (hg : g = b - a) (hf : f = c - g) (ix : x = e * f) (iy : y = g * h) (iz : z = f * g) : Pj (ad2 fD P P) x y z (e * h) := by
  have k := cvF.pj_dbl hP hz hX hY
  subst ix iy iz hf hg he hh h0 hc hb ha
  exact k
set_option maxHeartbeats 8000000 in
theorem v_Cu_dbl4 {G : GX} {M : List va_E} {to tx ty tz tt : Nat} {P : Fp × Fp} (hcs : CS1 M) (hto : PC M to tx ty tz tt P) (oP : OnP fD P) (gt : ∀ w ∈ [to, tx, ty, tz, tt], ∀ z ∈ (77 :: 78 :: cuR), w ≠ z) (n_0_1 : tx ≠ ty) (n_0_2 : tx ≠ tz) (n_0_3 : tx ≠ tt) (n_1_2 : ty ≠ tz) (n_1_3 : ty ≠ tt) (n_2_3 : tz ≠ tt) (m_0 : to ≠ tx) (m_1 : to ≠ ty) (m_2 : to ≠ tz) (m_3 : to ≠ tt) (k_tx : K0 ≤ tx) (k_ty : K0 ≤ ty) (k_tz : K0 ≤ tz) (k_tt : K0 ≤ tt) : CT G mi_Cu_doubleTimes [.ref 77, .ref to, .int (nI 4)] M (fun r M' => r = none ∧ CS1 M' ∧ PC M' to tx ty tz tt (ad2 fD (ad2 fD (ad2 fD (ad2 fD P P) (ad2 fD P P)) (ad2 fD (ad2 fD P P) (ad2 fD P P))) (ad2 fD (ad2 fD (ad2 fD P P) (ad2 fD P P)) (ad2 fD (ad2 fD P P) (ad2 fD P P)))) ∧ Kp [94, 95, 96, 97, 98, 99, 100, 102, tx, ty, tz, tt] M M') := by
  obtain ⟨t0, X, Y, Z, T, t1, t2, t3, t4, jp⟩ := hto
  refine CT.of (by decide) (Nat.le_of_ble_eq_true rfl) ?_
  show TT G mi_Cu_doubleTimes 0 [(0, .ref 77), (1, .ref to), (2, .int (nI 4))] [] M 0 0 _
  refine T_iconst (v := nI 0) d_Cu_doubleTimes_0 (by decide) ?_
  refine T_istore_n (L' := [(3, .int (nI 0)), (0, .ref 77), (1, .ref to), (2, .int (nI 4))]) d_Cu_doubleTimes_1 (by decide) rfl ?_
  refine T_iload_n d_Cu_doubleTimes_2 rfl ?_
  refine T_iload_n d_Cu_doubleTimes_3 rfl ?_
  refine N_icmp_ge_f (a := 4) (b := 0) d_Cu_doubleTimes_4 (tgt := 196) rfl (by omega) (by omega) (by omega) ?_
  refine T_aload_n (v := .ref 77) d_Cu_doubleTimes_7 rfl (Or.inr ⟨_, rfl⟩) ?_
  refine T_getfield (v := .ref 94) d_Cu_doubleTimes_8 fg_Cu_36 hcs.1 rfl ?_
  refine T_aload_n (v := .ref to) d_Cu_doubleTimes_11 rfl (Or.inr ⟨_, rfl⟩) ?_
  refine T_getfield (v := .ref tx) d_Cu_doubleTimes_12 fg_Cu_67 t0 rfl ?_
  refine T_iconst (v := nI 1) d_Cu_doubleTimes_15 (by decide) ?_
  refine T_vsq1 d_Cu_doubleTimes_16 (jw_Fi_square.jo (by decide)) lm_Cu_89 (Nat.le_of_ble_eq_true rfl) (by decide) (by decide) (by decide) (hcs.2.2 94 (by decide)) t1 (by decide) (fun M_1 v_1 e_1 => ?_)
  obtain ⟨x_1, hx_1⟩ : ∃ z : Int, z = (X * X) := ⟨_, rfl⟩
  rw [← hx_1] at v_1
  refine T_aload_n (v := .ref 77) d_Cu_doubleTimes_19 rfl (Or.inr ⟨_, rfl⟩) ?_
  have h_2 := (e_1 77 (by decide)).trans (hcs.1)
  refine T_getfield (v := .ref 95) d_Cu_doubleTimes_20 fg_Cu_40 h_2 rfl ?_
  refine T_aload_n (v := .ref to) d_Cu_doubleTimes_23 rfl (Or.inr ⟨_, rfl⟩) ?_
  have h_3 := (e_1 to (gt to (by simp) 94 (by decide))).trans (t0)
  refine T_getfield (v := .ref ty) d_Cu_doubleTimes_24 fg_Cu_64 h_3 rfl ?_
  refine T_iconst (v := nI 1) d_Cu_doubleTimes_27 (by decide) ?_
  have p_4 := (RV.kp (t2) (Ex.kp e_1) (by simp only [List.mem_cons, List.not_mem_nil, or_false]; exact (gt ty (by simp) 94 (by decide))))
  have p_6 := (RQ.kp ((hcs.2.2 95 (by decide))) (Ex.kp e_1) (by decide))
  refine T_vsq1 d_Cu_doubleTimes_28 (jw_Fi_square.jo (by decide)) lm_Cu_89 (Nat.le_of_ble_eq_true rfl) (by decide) (by decide) (by decide) p_6 p_4 (by decide) (fun M_5 v_5 e_5 => ?_)
  obtain ⟨x_6, hx_6⟩ : ∃ z : Int, z = (Y * Y) := ⟨_, rfl⟩
  rw [← hx_6] at v_5
  refine T_aload_n (v := .ref 77) d_Cu_doubleTimes_31 rfl (Or.inr ⟨_, rfl⟩) ?_
  have h_7 := (e_5 77 (by decide)).trans (h_2)
  refine T_getfield (v := .ref 96) d_Cu_doubleTimes_32 fg_Cu_43 h_7 rfl ?_
  refine T_aload_n (v := .ref to) d_Cu_doubleTimes_35 rfl (Or.inr ⟨_, rfl⟩) ?_
  have h_8 := (e_5 to (gt to (by simp) 95 (by decide))).trans (h_3)
  refine T_getfield (v := .ref tz) d_Cu_doubleTimes_36 fg_Cu_86 h_8 rfl ?_
  refine T_iconst (v := nI 1) d_Cu_doubleTimes_39 (by decide) ?_
  have p_9 := (RV.kp ((RV.kp (t3) (Ex.kp e_1) (by simp only [List.mem_cons, List.not_mem_nil, or_false]; exact (gt tz (by simp) 94 (by decide))))) (Ex.kp e_5) (by simp only [List.mem_cons, List.not_mem_nil, or_false]; exact (gt tz (by simp) 95 (by decide))))
  have p_11 := (RQ.kp ((RQ.kp ((hcs.2.2 96 (by decide))) (Ex.kp e_1) (by decide))) (Ex.kp e_5) (by decide))
  refine T_vsq1 d_Cu_doubleTimes_40 (jw_Fi_square.jo (by decide)) lm_Cu_89 (Nat.le_of_ble_eq_true rfl) (by decide) (by decide) (by decide) p_11 p_9 (by decide) (fun M_10 v_10 e_10 => ?_)
  obtain ⟨x_11, hx_11⟩ : ∃ z : Int, z = (Z * Z) := ⟨_, rfl⟩
  rw [← hx_11] at v_10
  refine T_aload_n (v := .ref 77) d_Cu_doubleTimes_43 rfl (Or.inr ⟨_, rfl⟩) ?_
  have h_12 := (e_10 77 (by decide)).trans (h_7)
  refine T_getfield (v := .ref 96) d_Cu_doubleTimes_44 fg_Cu_43 h_12 rfl ?_
  refine T_aload_n (v := .ref 77) d_Cu_doubleTimes_47 rfl (Or.inr ⟨_, rfl⟩) ?_
  refine T_getfield (v := .ref 96) d_Cu_doubleTimes_48 fg_Cu_43 h_12 rfl ?_
  refine T_aload_n (v := .ref 77) d_Cu_doubleTimes_51 rfl (Or.inr ⟨_, rfl⟩) ?_
  refine T_getfield (v := .ref 96) d_Cu_doubleTimes_52 fg_Cu_43 h_12 rfl ?_
  refine T_vadd d_Cu_doubleTimes_55 (jw_Fi_add.jo (by decide)) lm_Cu_77 (Nat.le_of_ble_eq_true rfl) (by decide) (by decide) (by decide) (Rv.rq v_10) v_10 v_10 (by decide) (fun M_13 v_13 e_13 => ?_)
  obtain ⟨x_13, hx_13⟩ : ∃ z : Int, z = (x_11 + x_11) := ⟨_, rfl⟩
  rw [← hx_13] at v_13
  refine T_aload_n (v := .ref 77) d_Cu_doubleTimes_58 rfl (Or.inr ⟨_, rfl⟩) ?_
  have h_14 := (e_13 77 (by decide)).trans (h_12)
  refine T_getfield (v := .ref 97) d_Cu_doubleTimes_59 fg_Cu_46 h_14 rfl ?_
  refine T_aload_n (v := .ref to) d_Cu_doubleTimes_62 rfl (Or.inr ⟨_, rfl⟩) ?_
  have h_15 := (e_13 to (gt to (by simp) 96 (by decide))).trans ((e_10 to (gt to (by simp) 96 (by decide))).trans (h_8))
  refine T_getfield (v := .ref tx) d_Cu_doubleTimes_63 fg_Cu_67 h_15 rfl ?_
  refine T_aload_n (v := .ref to) d_Cu_doubleTimes_66 rfl (Or.inr ⟨_, rfl⟩) ?_
  refine T_getfield (v := .ref ty) d_Cu_doubleTimes_67 fg_Cu_64 h_15 rfl ?_
  have p_16 := (RV.kp ((RV.kp ((RV.kp ((RV.kp (t1) (Ex.kp e_1) (by simp only [List.mem_cons, List.not_mem_nil, or_false]; exact (gt tx (by simp) 94 (by decide))))) (Ex.kp e_5) (by simp only [List.mem_cons, List.not_mem_nil, or_false]; exact (gt tx (by simp) 95 (by decide))))) (Ex.kp e_10) (by simp only [List.mem_cons, List.not_mem_nil, or_false]; exact (gt tx (by simp) 96 (by decide))))) (Ex.kp e_13) (by simp only [List.mem_cons, List.not_mem_nil, or_false]; exact (gt tx (by simp) 96 (by decide))))
  have p_17 := (RV.kp ((RV.kp ((RV.kp (p_4) (Ex.kp e_5) (by simp only [List.mem_cons, List.not_mem_nil, or_false]; exact (gt ty (by simp) 95 (by decide))))) (Ex.kp e_10) (by simp only [List.mem_cons, List.not_mem_nil, or_false]; exact (gt ty (by simp) 96 (by decide))))) (Ex.kp e_13) (by simp only [List.mem_cons, List.not_mem_nil, or_false]; exact (gt ty (by simp) 96 (by decide))))
  have p_19 := (RQ.kp ((RQ.kp ((RQ.kp ((RQ.kp ((hcs.2.2 97 (by decide))) (Ex.kp e_1) (by decide))) (Ex.kp e_5) (by decide))) (Ex.kp e_10) (by decide))) (Ex.kp e_13) (by decide))
  refine T_vadd d_Cu_doubleTimes_70 (jw_Fi_add.jo (by decide)) lm_Cu_77 (Nat.le_of_ble_eq_true rfl) (by decide) (by decide) (by decide) p_19 p_16 p_17 (by decide) (fun M_18 v_18 e_18 => ?_)
  obtain ⟨x_19, hx_19⟩ : ∃ z : Int, z = (X + Y) := ⟨_, rfl⟩
  rw [← hx_19] at v_18
  refine T_aload_n (v := .ref 77) d_Cu_doubleTimes_73 rfl (Or.inr ⟨_, rfl⟩) ?_
  have h_20 := (e_18 77 (by decide)).trans (h_14)
  refine T_getfield (v := .ref 97) d_Cu_doubleTimes_74 fg_Cu_46 h_20 rfl ?_
  refine T_aload_n (v := .ref 77) d_Cu_doubleTimes_77 rfl (Or.inr ⟨_, rfl⟩) ?_
  refine T_getfield (v := .ref 97) d_Cu_doubleTimes_78 fg_Cu_46 h_20 rfl ?_
  refine T_iconst (v := nI 1) d_Cu_doubleTimes_81 (by decide) ?_
  refine T_vsq1 d_Cu_doubleTimes_82 (jw_Fi_square.jo (by decide)) lm_Cu_89 (Nat.le_of_ble_eq_true rfl) (by decide) (by decide) (by decide) (Rv.rq v_18) v_18 (by decide) (fun M_21 v_21 e_21 => ?_)
  obtain ⟨x_21, hx_21⟩ : ∃ z : Int, z = (x_19 * x_19) := ⟨_, rfl⟩
  rw [← hx_21] at v_21
  refine T_aload_n (v := .ref 77) d_Cu_doubleTimes_85 rfl (Or.inr ⟨_, rfl⟩) ?_
  have h_22 := (e_21 77 (by decide)).trans (h_20)
  refine T_getfield (v := .ref 100) d_Cu_doubleTimes_86 fg_Cu_55 h_22 rfl ?_
  refine T_aload_n (v := .ref 77) d_Cu_doubleTimes_89 rfl (Or.inr ⟨_, rfl⟩) ?_
  refine T_getfield (v := .ref 94) d_Cu_doubleTimes_90 fg_Cu_36 h_22 rfl ?_
  refine T_aload_n (v := .ref 77) d_Cu_doubleTimes_93 rfl (Or.inr ⟨_, rfl⟩) ?_
  refine T_getfield (v := .ref 95) d_Cu_doubleTimes_94 fg_Cu_40 h_22 rfl ?_
  have p_23 := (RV.kp ((RV.kp ((RV.kp ((RV.kp ((RV.kp (v_1) (Ex.kp e_5) (by decide))) (Ex.kp e_10) (by decide))) (Ex.kp e_13) (by decide))) (Ex.kp e_18) (by decide))) (Ex.kp e_21) (by decide))
  have p_24 := (RV.kp ((RV.kp ((RV.kp ((RV.kp (v_5) (Ex.kp e_10) (by decide))) (Ex.kp e_13) (by decide))) (Ex.kp e_18) (by decide))) (Ex.kp e_21) (by decide))
  have p_26 := (RQ.kp ((RQ.kp ((RQ.kp ((RQ.kp ((RQ.kp ((RQ.kp ((hcs.2.2 100 (by decide))) (Ex.kp e_1) (by decide))) (Ex.kp e_5) (by decide))) (Ex.kp e_10) (by decide))) (Ex.kp e_13) (by decide))) (Ex.kp e_18) (by decide))) (Ex.kp e_21) (by decide))
  refine T_vadd d_Cu_doubleTimes_97 (jw_Fi_add.jo (by decide)) lm_Cu_77 (Nat.le_of_ble_eq_true rfl) (by decide) (by decide) (by decide) p_26 p_23 p_24 (by decide) (fun M_25 v_25 e_25 => ?_)
  obtain ⟨x_26, hx_26⟩ : ∃ z : Int, z = (x_1 + x_6) := ⟨_, rfl⟩
  rw [← hx_26] at v_25
  refine T_aload_n (v := .ref 77) d_Cu_doubleTimes_100 rfl (Or.inr ⟨_, rfl⟩) ?_
  have h_27 := (e_25 77 (by decide)).trans (h_22)
  refine T_getfield (v := .ref 97) d_Cu_doubleTimes_101 fg_Cu_46 h_27 rfl ?_
  refine T_aload_n (v := .ref 77) d_Cu_doubleTimes_104 rfl (Or.inr ⟨_, rfl⟩) ?_
  refine T_getfield (v := .ref 97) d_Cu_doubleTimes_105 fg_Cu_46 h_27 rfl ?_
  refine T_aload_n (v := .ref 77) d_Cu_doubleTimes_108 rfl (Or.inr ⟨_, rfl⟩) ?_
  refine T_getfield (v := .ref 100) d_Cu_doubleTimes_109 fg_Cu_55 h_27 rfl ?_
  have p_28 := (RV.kp (v_21) (Ex.kp e_25) (by decide))
  refine T_vsub d_Cu_doubleTimes_112 (jw_Fi_subtract.jo (by decide)) lm_Cu_70 (Nat.le_of_ble_eq_true rfl) (by decide) (by decide) (by decide) (Rv.rq p_28) p_28 v_25 (by decide) (fun M_29 v_29 e_29 => ?_)
  obtain ⟨x_29, hx_29⟩ : ∃ z : Int, z = (x_21 - x_26) := ⟨_, rfl⟩
  rw [← hx_29] at v_29
  refine T_aload_n (v := .ref 77) d_Cu_doubleTimes_115 rfl (Or.inr ⟨_, rfl⟩) ?_
  have h_30 := (e_29 77 (by decide)).trans (h_27)
  refine T_getfield (v := .ref 99) d_Cu_doubleTimes_116 fg_Cu_52 h_30 rfl ?_
  refine T_aload_n (v := .ref 77) d_Cu_doubleTimes_119 rfl (Or.inr ⟨_, rfl⟩) ?_
  refine T_getfield (v := .ref 95) d_Cu_doubleTimes_120 fg_Cu_40 h_30 rfl ?_
  refine T_aload_n (v := .ref 77) d_Cu_doubleTimes_123 rfl (Or.inr ⟨_, rfl⟩) ?_
  refine T_getfield (v := .ref 94) d_Cu_doubleTimes_124 fg_Cu_36 h_30 rfl ?_
  have p_31 := (RV.kp ((RV.kp (p_24) (Ex.kp e_25) (by decide))) (Ex.kp e_29) (by decide))
  have p_32 := (RV.kp ((RV.kp (p_23) (Ex.kp e_25) (by decide))) (Ex.kp e_29) (by decide))
  have p_34 := (RQ.kp ((RQ.kp ((RQ.kp ((RQ.kp ((RQ.kp ((RQ.kp ((RQ.kp ((RQ.kp ((hcs.2.2 99 (by decide))) (Ex.kp e_1) (by decide))) (Ex.kp e_5) (by decide))) (Ex.kp e_10) (by decide))) (Ex.kp e_13) (by decide))) (Ex.kp e_18) (by decide))) (Ex.kp e_21) (by decide))) (Ex.kp e_25) (by decide))) (Ex.kp e_29) (by decide))
  refine T_vsub d_Cu_doubleTimes_127 (jw_Fi_subtract.jo (by decide)) lm_Cu_70 (Nat.le_of_ble_eq_true rfl) (by decide) (by decide) (by decide) p_34 p_31 p_32 (by decide) (fun M_33 v_33 e_33 => ?_)
  obtain ⟨x_34, hx_34⟩ : ∃ z : Int, z = (x_6 - x_1) := ⟨_, rfl⟩
  rw [← hx_34] at v_33
  refine T_aload_n (v := .ref 77) d_Cu_doubleTimes_130 rfl (Or.inr ⟨_, rfl⟩) ?_
  have h_35 := (e_33 77 (by decide)).trans (h_30)
  refine T_getfield (v := .ref 98) d_Cu_doubleTimes_131 fg_Cu_49 h_35 rfl ?_
  refine T_aload_n (v := .ref 77) d_Cu_doubleTimes_134 rfl (Or.inr ⟨_, rfl⟩) ?_
  refine T_getfield (v := .ref 96) d_Cu_doubleTimes_135 fg_Cu_43 h_35 rfl ?_
  refine T_aload_n (v := .ref 77) d_Cu_doubleTimes_138 rfl (Or.inr ⟨_, rfl⟩) ?_
  refine T_getfield (v := .ref 99) d_Cu_doubleTimes_139 fg_Cu_52 h_35 rfl ?_
  have p_36 := (RV.kp ((RV.kp ((RV.kp ((RV.kp ((RV.kp (v_13) (Ex.kp e_18) (by decide))) (Ex.kp e_21) (by decide))) (Ex.kp e_25) (by decide))) (Ex.kp e_29) (by decide))) (Ex.kp e_33) (by decide))
  have p_38 := (RQ.kp ((RQ.kp ((RQ.kp ((RQ.kp ((RQ.kp ((RQ.kp ((RQ.kp ((RQ.kp ((RQ.kp ((hcs.2.2 98 (by decide))) (Ex.kp e_1) (by decide))) (Ex.kp e_5) (by decide))) (Ex.kp e_10) (by decide))) (Ex.kp e_13) (by decide))) (Ex.kp e_18) (by decide))) (Ex.kp e_21) (by decide))) (Ex.kp e_25) (by decide))) (Ex.kp e_29) (by decide))) (Ex.kp e_33) (by decide))
  refine T_vsub d_Cu_doubleTimes_142 (jw_Fi_subtract.jo (by decide)) lm_Cu_70 (Nat.le_of_ble_eq_true rfl) (by decide) (by decide) (by decide) p_38 p_36 v_33 (by decide) (fun M_37 v_37 e_37 => ?_)
  obtain ⟨x_38, hx_38⟩ : ∃ z : Int, z = (x_13 - x_34) := ⟨_, rfl⟩
  rw [← hx_38] at v_37
  refine T_aload_n (v := .ref to) d_Cu_doubleTimes_145 rfl (Or.inr ⟨_, rfl⟩) ?_
  have h_39 := (e_37 to (gt to (by simp) 98 (by decide))).trans ((e_33 to (gt to (by simp) 99 (by decide))).trans ((e_29 to (gt to (by simp) 97 (by decide))).trans ((e_25 to (gt to (by simp) 100 (by decide))).trans ((e_21 to (gt to (by simp) 97 (by decide))).trans ((e_18 to (gt to (by simp) 97 (by decide))).trans (h_15))))))
  refine T_getfield (v := .ref tx) d_Cu_doubleTimes_146 fg_Cu_67 h_39 rfl ?_
  refine T_aload_n (v := .ref 77) d_Cu_doubleTimes_149 rfl (Or.inr ⟨_, rfl⟩) ?_
  have h_40 := (e_37 77 (by decide)).trans (h_35)
  refine T_getfield (v := .ref 97) d_Cu_doubleTimes_150 fg_Cu_46 h_40 rfl ?_
  refine T_aload_n (v := .ref 77) d_Cu_doubleTimes_153 rfl (Or.inr ⟨_, rfl⟩) ?_
  refine T_getfield (v := .ref 98) d_Cu_doubleTimes_154 fg_Cu_49 h_40 rfl ?_
  have p_41 := (RV.kp ((RV.kp (v_29) (Ex.kp e_33) (by decide))) (Ex.kp e_37) (by decide))
  have p_43 := (RV.kp ((RV.kp ((RV.kp ((RV.kp ((RV.kp ((RV.kp (p_16) (Ex.kp e_18) (by simp only [List.mem_cons, List.not_mem_nil, or_false]; exact (gt tx (by simp) 97 (by decide))))) (Ex.kp e_21) (by simp only [List.mem_cons, List.not_mem_nil, or_false]; exact (gt tx (by simp) 97 (by decide))))) (Ex.kp e_25) (by simp only [List.mem_cons, List.not_mem_nil, or_false]; exact (gt tx (by simp) 100 (by decide))))) (Ex.kp e_29) (by simp only [List.mem_cons, List.not_mem_nil, or_false]; exact (gt tx (by simp) 97 (by decide))))) (Ex.kp e_33) (by simp only [List.mem_cons, List.not_mem_nil, or_false]; exact (gt tx (by simp) 99 (by decide))))) (Ex.kp e_37) (by simp only [List.mem_cons, List.not_mem_nil, or_false]; exact (gt tx (by simp) 98 (by decide))))
  refine T_vmul d_Cu_doubleTimes_157 (jw_Fi_multiply.jo (by decide)) lm_Cu_74 (Nat.le_of_ble_eq_true rfl) (by decide) (by decide) k_tx (Rv.rq p_43) p_41 v_37 (by decide) (fun M_42 v_42 e_42 => ?_)
  obtain ⟨x_43, hx_43⟩ : ∃ z : Int, z = (x_29 * x_38) := ⟨_, rfl⟩
  rw [← hx_43] at v_42
  refine T_aload_n (v := .ref to) d_Cu_doubleTimes_160 rfl (Or.inr ⟨_, rfl⟩) ?_
  have h_44 := (e_42 to m_0).trans (h_39)
  refine T_getfield (v := .ref ty) d_Cu_doubleTimes_161 fg_Cu_64 h_44 rfl ?_
  refine T_aload_n (v := .ref 77) d_Cu_doubleTimes_164 rfl (Or.inr ⟨_, rfl⟩) ?_
  have h_45 := (e_42 77 (Ne.symm (gt tx (by simp) 77 (by decide)))).trans (h_40)
  refine T_getfield (v := .ref 99) d_Cu_doubleTimes_165 fg_Cu_52 h_45 rfl ?_
  refine T_aload_n (v := .ref 77) d_Cu_doubleTimes_168 rfl (Or.inr ⟨_, rfl⟩) ?_
  refine T_getfield (v := .ref 100) d_Cu_doubleTimes_169 fg_Cu_55 h_45 rfl ?_
  have p_46 := (RV.kp ((RV.kp (v_33) (Ex.kp e_37) (by decide))) (Ex.kp e_42) (by simp only [List.mem_cons, List.not_mem_nil, or_false]; exact (Ne.symm (gt tx (by simp) 99 (by decide)))))
  have p_47 := (RV.kp ((RV.kp ((RV.kp ((RV.kp (v_25) (Ex.kp e_29) (by decide))) (Ex.kp e_33) (by decide))) (Ex.kp e_37) (by decide))) (Ex.kp e_42) (by simp only [List.mem_cons, List.not_mem_nil, or_false]; exact (Ne.symm (gt tx (by simp) 100 (by decide)))))
  have p_49 := (RV.kp ((RV.kp ((RV.kp ((RV.kp ((RV.kp ((RV.kp ((RV.kp (p_17) (Ex.kp e_18) (by simp only [List.mem_cons, List.not_mem_nil, or_false]; exact (gt ty (by simp) 97 (by decide))))) (Ex.kp e_21) (by simp only [List.mem_cons, List.not_mem_nil, or_false]; exact (gt ty (by simp) 97 (by decide))))) (Ex.kp e_25) (by simp only [List.mem_cons, List.not_mem_nil, or_false]; exact (gt ty (by simp) 100 (by decide))))) (Ex.kp e_29) (by simp only [List.mem_cons, List.not_mem_nil, or_false]; exact (gt ty (by simp) 97 (by decide))))) (Ex.kp e_33) (by simp only [List.mem_cons, List.not_mem_nil, or_false]; exact (gt ty (by simp) 99 (by decide))))) (Ex.kp e_37) (by simp only [List.mem_cons, List.not_mem_nil, or_false]; exact (gt ty (by simp) 98 (by decide))))) (Ex.kp e_42) (by simp only [List.mem_cons, List.not_mem_nil, or_false]; exact (Ne.symm n_0_1)))
  refine T_vmul d_Cu_doubleTimes_172 (jw_Fi_multiply.jo (by decide)) lm_Cu_74 (Nat.le_of_ble_eq_true rfl) (by decide) (by decide) k_ty (Rv.rq p_49) p_46 p_47 (by decide) (fun M_48 v_48 e_48 => ?_)
  obtain ⟨x_49, hx_49⟩ : ∃ z : Int, z = (x_34 * x_26) := ⟨_, rfl⟩
  rw [← hx_49] at v_48
  refine T_aload_n (v := .ref to) d_Cu_doubleTimes_175 rfl (Or.inr ⟨_, rfl⟩) ?_
  have h_50 := (e_48 to m_1).trans (h_44)
  refine T_getfield (v := .ref tz) d_Cu_doubleTimes_176 fg_Cu_86 h_50 rfl ?_
  refine T_aload_n (v := .ref 77) d_Cu_doubleTimes_179 rfl (Or.inr ⟨_, rfl⟩) ?_
  have h_51 := (e_48 77 (Ne.symm (gt ty (by simp) 77 (by decide)))).trans (h_45)
  refine T_getfield (v := .ref 98) d_Cu_doubleTimes_180 fg_Cu_49 h_51 rfl ?_
  refine T_aload_n (v := .ref 77) d_Cu_doubleTimes_183 rfl (Or.inr ⟨_, rfl⟩) ?_
  refine T_getfield (v := .ref 99) d_Cu_doubleTimes_184 fg_Cu_52 h_51 rfl ?_
  have p_52 := (RV.kp ((RV.kp (v_37) (Ex.kp e_42) (by simp only [List.mem_cons, List.not_mem_nil, or_false]; exact (Ne.symm (gt tx (by simp) 98 (by decide)))))) (Ex.kp e_48) (by simp only [List.mem_cons, List.not_mem_nil, or_false]; exact (Ne.symm (gt ty (by simp) 98 (by decide)))))
  have p_53 := (RV.kp (p_46) (Ex.kp e_48) (by simp only [List.mem_cons, List.not_mem_nil, or_false]; exact (Ne.symm (gt ty (by simp) 99 (by decide)))))
  have p_55 := (RV.kp ((RV.kp ((RV.kp ((RV.kp ((RV.kp ((RV.kp ((RV.kp ((RV.kp ((RV.kp ((RV.kp (p_9) (Ex.kp e_10) (by simp only [List.mem_cons, List.not_mem_nil, or_false]; exact (gt tz (by simp) 96 (by decide))))) (Ex.kp e_13) (by simp only [List.mem_cons, List.not_mem_nil, or_false]; exact (gt tz (by simp) 96 (by decide))))) (Ex.kp e_18) (by simp only [List.mem_cons, List.not_mem_nil, or_false]; exact (gt tz (by simp) 97 (by decide))))) (Ex.kp e_21) (by simp only [List.mem_cons, List.not_mem_nil, or_false]; exact (gt tz (by simp) 97 (by decide))))) (Ex.kp e_25) (by simp only [List.mem_cons, List.not_mem_nil, or_false]; exact (gt tz (by simp) 100 (by decide))))) (Ex.kp e_29) (by simp only [List.mem_cons, List.not_mem_nil, or_false]; exact (gt tz (by simp) 97 (by decide))))) (Ex.kp e_33) (by simp only [List.mem_cons, List.not_mem_nil, or_false]; exact (gt tz (by simp) 99 (by decide))))) (Ex.kp e_37) (by simp only [List.mem_cons, List.not_mem_nil, or_false]; exact (gt tz (by simp) 98 (by decide))))) (Ex.kp e_42) (by simp only [List.mem_cons, List.not_mem_nil, or_false]; exact (Ne.symm n_0_2)))) (Ex.kp e_48) (by simp only [List.mem_cons, List.not_mem_nil, or_false]; exact (Ne.symm n_1_2)))
  refine T_vmul d_Cu_doubleTimes_187 (jw_Fi_multiply.jo (by decide)) lm_Cu_74 (Nat.le_of_ble_eq_true rfl) (by decide) (by decide) k_tz (Rv.rq p_55) p_52 p_53 (by decide) (fun M_54 v_54 e_54 => ?_)
  obtain ⟨x_55, hx_55⟩ : ∃ z : Int, z = (x_38 * x_34) := ⟨_, rfl⟩
  rw [← hx_55] at v_54
  have K1 := pj_dblC (X := ph X) (Y := ph Y) (Z := ph Z) oP jp.1 jp.2.1 jp.2.2.1 (a := ph x_1) (b := ph x_6) (c := ph x_13) (e0 := ph x_21) (e := ph x_29) (g := ph x_34) (f := ph x_38) (h := ph x_26) (x := ph x_43) (y := ph x_49) (z := ph x_55) (by rw [hx_1, ph_mul]) (by rw [hx_6, ph_mul]) (by rw [hx_13, ph_add, hx_11, ph_mul]) (by rw [hx_21, ph_mul, hx_19, ph_add]) (by rw [hx_26, ph_add]) (by rw [hx_29, ph_sub]) (by rw [hx_34, ph_sub]) (by rw [hx_38, ph_sub]) (by rw [hx_43, ph_mul]) (by rw [hx_49, ph_mul]) (by rw [hx_55, ph_mul])
  refine N_iinc (k := 0) (m := 1) (c := 1) (L' := [(3, .int (nI 1)), (0, .ref 77), (1, .ref to), (2, .int (nI 4))]) d_Cu_doubleTimes_190 (by decide) rfl (by decide) rfl rfl ?_
  refine T_goto (tgt := 2) d_Cu_doubleTimes_193 rfl ?_
  refine T_iload_n d_Cu_doubleTimes_2 rfl ?_
  refine T_iload_n d_Cu_doubleTimes_3 rfl ?_
  refine N_icmp_ge_f (a := 4) (b := 1) d_Cu_doubleTimes_4 (tgt := 196) rfl (by omega) (by omega) (by omega) ?_
  refine T_aload_n (v := .ref 77) d_Cu_doubleTimes_7 rfl (Or.inr ⟨_, rfl⟩) ?_
  have h_56 := (e_54 77 (Ne.symm (gt tz (by simp) 77 (by decide)))).trans (h_51)
  refine T_getfield (v := .ref 94) d_Cu_doubleTimes_8 fg_Cu_36 h_56 rfl ?_
  refine T_aload_n (v := .ref to) d_Cu_doubleTimes_11 rfl (Or.inr ⟨_, rfl⟩) ?_
  have h_57 := (e_54 to m_2).trans (h_50)
  refine T_getfield (v := .ref tx) d_Cu_doubleTimes_12 fg_Cu_67 h_57 rfl ?_
  refine T_iconst (v := nI 1) d_Cu_doubleTimes_15 (by decide) ?_
  have p_58 := (RV.kp ((RV.kp (v_42) (Ex.kp e_48) (by simp only [List.mem_cons, List.not_mem_nil, or_false]; exact n_0_1))) (Ex.kp e_54) (by simp only [List.mem_cons, List.not_mem_nil, or_false]; exact n_0_2))
  have p_60 := (RV.kp ((RV.kp ((RV.kp ((RV.kp ((RV.kp (p_32) (Ex.kp e_33) (by decide))) (Ex.kp e_37) (by decide))) (Ex.kp e_42) (by simp only [List.mem_cons, List.not_mem_nil, or_false]; exact (Ne.symm (gt tx (by simp) 94 (by decide)))))) (Ex.kp e_48) (by simp only [List.mem_cons, List.not_mem_nil, or_false]; exact (Ne.symm (gt ty (by simp) 94 (by decide)))))) (Ex.kp e_54) (by simp only [List.mem_cons, List.not_mem_nil, or_false]; exact (Ne.symm (gt tz (by simp) 94 (by decide)))))
  refine T_vsq1 d_Cu_doubleTimes_16 (jw_Fi_square.jo (by decide)) lm_Cu_89 (Nat.le_of_ble_eq_true rfl) (by decide) (by decide) (by decide) (Rv.rq p_60) p_58 (by decide) (fun M_59 v_59 e_59 => ?_)
  obtain ⟨x_60, hx_60⟩ : ∃ z : Int, z = (x_43 * x_43) := ⟨_, rfl⟩
  rw [← hx_60] at v_59
  refine T_aload_n (v := .ref 77) d_Cu_doubleTimes_19 rfl (Or.inr ⟨_, rfl⟩) ?_
  have h_61 := (e_59 77 (by decide)).trans (h_56)
  refine T_getfield (v := .ref 95) d_Cu_doubleTimes_20 fg_Cu_40 h_61 rfl ?_
  refine T_aload_n (v := .ref to) d_Cu_doubleTimes_23 rfl (Or.inr ⟨_, rfl⟩) ?_
  have h_62 := (e_59 to (gt to (by simp) 94 (by decide))).trans (h_57)
  refine T_getfield (v := .ref ty) d_Cu_doubleTimes_24 fg_Cu_64 h_62 rfl ?_
  refine T_iconst (v := nI 1) d_Cu_doubleTimes_27 (by decide) ?_
  have p_63 := (RV.kp ((RV.kp (v_48) (Ex.kp e_54) (by simp only [List.mem_cons, List.not_mem_nil, or_false]; exact n_1_2))) (Ex.kp e_59) (by simp only [List.mem_cons, List.not_mem_nil, or_false]; exact (gt ty (by simp) 94 (by decide))))
  have p_65 := (RV.kp ((RV.kp ((RV.kp ((RV.kp ((RV.kp ((RV.kp (p_31) (Ex.kp e_33) (by decide))) (Ex.kp e_37) (by decide))) (Ex.kp e_42) (by simp only [List.mem_cons, List.not_mem_nil, or_false]; exact (Ne.symm (gt tx (by simp) 95 (by decide)))))) (Ex.kp e_48) (by simp only [List.mem_cons, List.not_mem_nil, or_false]; exact (Ne.symm (gt ty (by simp) 95 (by decide)))))) (Ex.kp e_54) (by simp only [List.mem_cons, List.not_mem_nil, or_false]; exact (Ne.symm (gt tz (by simp) 95 (by decide)))))) (Ex.kp e_59) (by decide))
  refine T_vsq1 d_Cu_doubleTimes_28 (jw_Fi_square.jo (by decide)) lm_Cu_89 (Nat.le_of_ble_eq_true rfl) (by decide) (by decide) (by decide) (Rv.rq p_65) p_63 (by decide) (fun M_64 v_64 e_64 => ?_)
  obtain ⟨x_65, hx_65⟩ : ∃ z : Int, z = (x_49 * x_49) := ⟨_, rfl⟩
  rw [← hx_65] at v_64
  refine T_aload_n (v := .ref 77) d_Cu_doubleTimes_31 rfl (Or.inr ⟨_, rfl⟩) ?_
  have h_66 := (e_64 77 (by decide)).trans (h_61)
  refine T_getfield (v := .ref 96) d_Cu_doubleTimes_32 fg_Cu_43 h_66 rfl ?_
  refine T_aload_n (v := .ref to) d_Cu_doubleTimes_35 rfl (Or.inr ⟨_, rfl⟩) ?_
  have h_67 := (e_64 to (gt to (by simp) 95 (by decide))).trans (h_62)
  refine T_getfield (v := .ref tz) d_Cu_doubleTimes_36 fg_Cu_86 h_67 rfl ?_
  refine T_iconst (v := nI 1) d_Cu_doubleTimes_39 (by decide) ?_
  have p_68 := (RV.kp ((RV.kp (v_54) (Ex.kp e_59) (by simp only [List.mem_cons, List.not_mem_nil, or_false]; exact (gt tz (by simp) 94 (by decide))))) (Ex.kp e_64) (by simp only [List.mem_cons, List.not_mem_nil, or_false]; exact (gt tz (by simp) 95 (by decide))))
  have p_70 := (RV.kp ((RV.kp ((RV.kp ((RV.kp ((RV.kp ((RV.kp (p_36) (Ex.kp e_37) (by decide))) (Ex.kp e_42) (by simp only [List.mem_cons, List.not_mem_nil, or_false]; exact (Ne.symm (gt tx (by simp) 96 (by decide)))))) (Ex.kp e_48) (by simp only [List.mem_cons, List.not_mem_nil, or_false]; exact (Ne.symm (gt ty (by simp) 96 (by decide)))))) (Ex.kp e_54) (by simp only [List.mem_cons, List.not_mem_nil, or_false]; exact (Ne.symm (gt tz (by simp) 96 (by decide)))))) (Ex.kp e_59) (by decide))) (Ex.kp e_64) (by decide))
  refine T_vsq1 d_Cu_doubleTimes_40 (jw_Fi_square.jo (by decide)) lm_Cu_89 (Nat.le_of_ble_eq_true rfl) (by decide) (by decide) (by decide) (Rv.rq p_70) p_68 (by decide) (fun M_69 v_69 e_69 => ?_)
  obtain ⟨x_70, hx_70⟩ : ∃ z : Int, z = (x_55 * x_55) := ⟨_, rfl⟩
  rw [← hx_70] at v_69
  refine T_aload_n (v := .ref 77) d_Cu_doubleTimes_43 rfl (Or.inr ⟨_, rfl⟩) ?_
  have h_71 := (e_69 77 (by decide)).trans (h_66)
  refine T_getfield (v := .ref 96) d_Cu_doubleTimes_44 fg_Cu_43 h_71 rfl ?_
  refine T_aload_n (v := .ref 77) d_Cu_doubleTimes_47 rfl (Or.inr ⟨_, rfl⟩) ?_
  refine T_getfield (v := .ref 96) d_Cu_doubleTimes_48 fg_Cu_43 h_71 rfl ?_
  refine T_aload_n (v := .ref 77) d_Cu_doubleTimes_51 rfl (Or.inr ⟨_, rfl⟩) ?_
  refine T_getfield (v := .ref 96) d_Cu_doubleTimes_52 fg_Cu_43 h_71 rfl ?_
  refine T_vadd d_Cu_doubleTimes_55 (jw_Fi_add.jo (by decide)) lm_Cu_77 (Nat.le_of_ble_eq_true rfl) (by decide) (by decide) (by decide) (Rv.rq v_69) v_69 v_69 (by decide) (fun M_72 v_72 e_72 => ?_)
  obtain ⟨x_72, hx_72⟩ : ∃ z : Int, z = (x_70 + x_70) := ⟨_, rfl⟩
  rw [← hx_72] at v_72
  refine T_aload_n (v := .ref 77) d_Cu_doubleTimes_58 rfl (Or.inr ⟨_, rfl⟩) ?_
  have h_73 := (e_72 77 (by decide)).trans (h_71)
  refine T_getfield (v := .ref 97) d_Cu_doubleTimes_59 fg_Cu_46 h_73 rfl ?_
  refine T_aload_n (v := .ref to) d_Cu_doubleTimes_62 rfl (Or.inr ⟨_, rfl⟩) ?_
  have h_74 := (e_72 to (gt to (by simp) 96 (by decide))).trans ((e_69 to (gt to (by simp) 96 (by decide))).trans (h_67))
  refine T_getfield (v := .ref tx) d_Cu_doubleTimes_63 fg_Cu_67 h_74 rfl ?_
  refine T_aload_n (v := .ref to) d_Cu_doubleTimes_66 rfl (Or.inr ⟨_, rfl⟩) ?_
  refine T_getfield (v := .ref ty) d_Cu_doubleTimes_67 fg_Cu_64 h_74 rfl ?_
  have p_75 := (RV.kp ((RV.kp ((RV.kp ((RV.kp (p_58) (Ex.kp e_59) (by simp only [List.mem_cons, List.not_mem_nil, or_false]; exact (gt tx (by simp) 94 (by decide))))) (Ex.kp e_64) (by simp only [List.mem_cons, List.not_mem_nil, or_false]; exact (gt tx (by simp) 95 (by decide))))) (Ex.kp e_69) (by simp only [List.mem_cons, List.not_mem_nil, or_false]; exact (gt tx (by simp) 96 (by decide))))) (Ex.kp e_72) (by simp only [List.mem_cons, List.not_mem_nil, or_false]; exact (gt tx (by simp) 96 (by decide))))
  have p_76 := (RV.kp ((RV.kp ((RV.kp (p_63) (Ex.kp e_64) (by simp only [List.mem_cons, List.not_mem_nil, or_false]; exact (gt ty (by simp) 95 (by decide))))) (Ex.kp e_69) (by simp only [List.mem_cons, List.not_mem_nil, or_false]; exact (gt ty (by simp) 96 (by decide))))) (Ex.kp e_72) (by simp only [List.mem_cons, List.not_mem_nil, or_false]; exact (gt ty (by simp) 96 (by decide))))
  have p_78 := (RV.kp ((RV.kp ((RV.kp ((RV.kp ((RV.kp ((RV.kp ((RV.kp (p_41) (Ex.kp e_42) (by simp only [List.mem_cons, List.not_mem_nil, or_false]; exact (Ne.symm (gt tx (by simp) 97 (by decide)))))) (Ex.kp e_48) (by simp only [List.mem_cons, List.not_mem_nil, or_false]; exact (Ne.symm (gt ty (by simp) 97 (by decide)))))) (Ex.kp e_54) (by simp only [List.mem_cons, List.not_mem_nil, or_false]; exact (Ne.symm (gt tz (by simp) 97 (by decide)))))) (Ex.kp e_59) (by decide))) (Ex.kp e_64) (by decide))) (Ex.kp e_69) (by decide))) (Ex.kp e_72) (by decide))
  refine T_vadd d_Cu_doubleTimes_70 (jw_Fi_add.jo (by decide)) lm_Cu_77 (Nat.le_of_ble_eq_true rfl) (by decide) (by decide) (by decide) (Rv.rq p_78) p_75 p_76 (by decide) (fun M_77 v_77 e_77 => ?_)
  obtain ⟨x_78, hx_78⟩ : ∃ z : Int, z = (x_43 + x_49) := ⟨_, rfl⟩
  rw [← hx_78] at v_77
  refine T_aload_n (v := .ref 77) d_Cu_doubleTimes_73 rfl (Or.inr ⟨_, rfl⟩) ?_
  have h_79 := (e_77 77 (by decide)).trans (h_73)
  refine T_getfield (v := .ref 97) d_Cu_doubleTimes_74 fg_Cu_46 h_79 rfl ?_
  refine T_aload_n (v := .ref 77) d_Cu_doubleTimes_77 rfl (Or.inr ⟨_, rfl⟩) ?_
  refine T_getfield (v := .ref 97) d_Cu_doubleTimes_78 fg_Cu_46 h_79 rfl ?_
  refine T_iconst (v := nI 1) d_Cu_doubleTimes_81 (by decide) ?_
  refine T_vsq1 d_Cu_doubleTimes_82 (jw_Fi_square.jo (by decide)) lm_Cu_89 (Nat.le_of_ble_eq_true rfl) (by decide) (by decide) (by decide) (Rv.rq v_77) v_77 (by decide) (fun M_80 v_80 e_80 => ?_)
  obtain ⟨x_80, hx_80⟩ : ∃ z : Int, z = (x_78 * x_78) := ⟨_, rfl⟩
  rw [← hx_80] at v_80
  refine T_aload_n (v := .ref 77) d_Cu_doubleTimes_85 rfl (Or.inr ⟨_, rfl⟩) ?_
  have h_81 := (e_80 77 (by decide)).trans (h_79)
  refine T_getfield (v := .ref 100) d_Cu_doubleTimes_86 fg_Cu_55 h_81 rfl ?_
  refine T_aload_n (v := .ref 77) d_Cu_doubleTimes_89 rfl (Or.inr ⟨_, rfl⟩) ?_
  refine T_getfield (v := .ref 94) d_Cu_doubleTimes_90 fg_Cu_36 h_81 rfl ?_
  refine T_aload_n (v := .ref 77) d_Cu_doubleTimes_93 rfl (Or.inr ⟨_, rfl⟩) ?_
  refine T_getfield (v := .ref 95) d_Cu_doubleTimes_94 fg_Cu_40 h_81 rfl ?_
  have p_82 := (RV.kp ((RV.kp ((RV.kp ((RV.kp ((RV.kp (v_59) (Ex.kp e_64) (by decide))) (Ex.kp e_69) (by decide))) (Ex.kp e_72) (by decide))) (Ex.kp e_77) (by decide))) (Ex.kp e_80) (by decide))
  have p_83 := (RV.kp ((RV.kp ((RV.kp ((RV.kp (v_64) (Ex.kp e_69) (by decide))) (Ex.kp e_72) (by decide))) (Ex.kp e_77) (by decide))) (Ex.kp e_80) (by decide))
  have p_85 := (RV.kp ((RV.kp ((RV.kp ((RV.kp ((RV.kp ((RV.kp ((RV.kp ((RV.kp (p_47) (Ex.kp e_48) (by simp only [List.mem_cons, List.not_mem_nil, or_false]; exact (Ne.symm (gt ty (by simp) 100 (by decide)))))) (Ex.kp e_54) (by simp only [List.mem_cons, List.not_mem_nil, or_false]; exact (Ne.symm (gt tz (by simp) 100 (by decide)))))) (Ex.kp e_59) (by decide))) (Ex.kp e_64) (by decide))) (Ex.kp e_69) (by decide))) (Ex.kp e_72) (by decide))) (Ex.kp e_77) (by decide))) (Ex.kp e_80) (by decide))
  refine T_vadd d_Cu_doubleTimes_97 (jw_Fi_add.jo (by decide)) lm_Cu_77 (Nat.le_of_ble_eq_true rfl) (by decide) (by decide) (by decide) (Rv.rq p_85) p_82 p_83 (by decide) (fun M_84 v_84 e_84 => ?_)
  obtain ⟨x_85, hx_85⟩ : ∃ z : Int, z = (x_60 + x_65) := ⟨_, rfl⟩
  rw [← hx_85] at v_84
  refine T_aload_n (v := .ref 77) d_Cu_doubleTimes_100 rfl (Or.inr ⟨_, rfl⟩) ?_
  have h_86 := (e_84 77 (by decide)).trans (h_81)
  refine T_getfield (v := .ref 97) d_Cu_doubleTimes_101 fg_Cu_46 h_86 rfl ?_
  refine T_aload_n (v := .ref 77) d_Cu_doubleTimes_104 rfl (Or.inr ⟨_, rfl⟩) ?_
  refine T_getfield (v := .ref 97) d_Cu_doubleTimes_105 fg_Cu_46 h_86 rfl ?_
  refine T_aload_n (v := .ref 77) d_Cu_doubleTimes_108 rfl (Or.inr ⟨_, rfl⟩) ?_
  refine T_getfield (v := .ref 100) d_Cu_doubleTimes_109 fg_Cu_55 h_86 rfl ?_
  have p_87 := (RV.kp (v_80) (Ex.kp e_84) (by decide))
  refine T_vsub d_Cu_doubleTimes_112 (jw_Fi_subtract.jo (by decide)) lm_Cu_70 (Nat.le_of_ble_eq_true rfl) (by decide) (by decide) (by decide) (Rv.rq p_87) p_87 v_84 (by decide) (fun M_88 v_88 e_88 => ?_)
  obtain ⟨x_88, hx_88⟩ : ∃ z : Int, z = (x_80 - x_85) := ⟨_, rfl⟩
  rw [← hx_88] at v_88
  refine T_aload_n (v := .ref 77) d_Cu_doubleTimes_115 rfl (Or.inr ⟨_, rfl⟩) ?_
  have h_89 := (e_88 77 (by decide)).trans (h_86)
  refine T_getfield (v := .ref 99) d_Cu_doubleTimes_116 fg_Cu_52 h_89 rfl ?_
  refine T_aload_n (v := .ref 77) d_Cu_doubleTimes_119 rfl (Or.inr ⟨_, rfl⟩) ?_
  refine T_getfield (v := .ref 95) d_Cu_doubleTimes_120 fg_Cu_40 h_89 rfl ?_
  refine T_aload_n (v := .ref 77) d_Cu_doubleTimes_123 rfl (Or.inr ⟨_, rfl⟩) ?_
  refine T_getfield (v := .ref 94) d_Cu_doubleTimes_124 fg_Cu_36 h_89 rfl ?_
  have p_90 := (RV.kp ((RV.kp (p_83) (Ex.kp e_84) (by decide))) (Ex.kp e_88) (by decide))
  have p_91 := (RV.kp ((RV.kp (p_82) (Ex.kp e_84) (by decide))) (Ex.kp e_88) (by decide))
  have p_93 := (RV.kp ((RV.kp ((RV.kp ((RV.kp ((RV.kp ((RV.kp ((RV.kp ((RV.kp ((RV.kp (p_53) (Ex.kp e_54) (by simp only [List.mem_cons, List.not_mem_nil, or_false]; exact (Ne.symm (gt tz (by simp) 99 (by decide)))))) (Ex.kp e_59) (by decide))) (Ex.kp e_64) (by decide))) (Ex.kp e_69) (by decide))) (Ex.kp e_72) (by decide))) (Ex.kp e_77) (by decide))) (Ex.kp e_80) (by decide))) (Ex.kp e_84) (by decide))) (Ex.kp e_88) (by decide))
  refine T_vsub d_Cu_doubleTimes_127 (jw_Fi_subtract.jo (by decide)) lm_Cu_70 (Nat.le_of_ble_eq_true rfl) (by decide) (by decide) (by decide) (Rv.rq p_93) p_90 p_91 (by decide) (fun M_92 v_92 e_92 => ?_)
  obtain ⟨x_93, hx_93⟩ : ∃ z : Int, z = (x_65 - x_60) := ⟨_, rfl⟩
  rw [← hx_93] at v_92
  refine T_aload_n (v := .ref 77) d_Cu_doubleTimes_130 rfl (Or.inr ⟨_, rfl⟩) ?_
  have h_94 := (e_92 77 (by decide)).trans (h_89)
  refine T_getfield (v := .ref 98) d_Cu_doubleTimes_131 fg_Cu_49 h_94 rfl ?_
  refine T_aload_n (v := .ref 77) d_Cu_doubleTimes_134 rfl (Or.inr ⟨_, rfl⟩) ?_
  refine T_getfield (v := .ref 96) d_Cu_doubleTimes_135 fg_Cu_43 h_94 rfl ?_
  refine T_aload_n (v := .ref 77) d_Cu_doubleTimes_138 rfl (Or.inr ⟨_, rfl⟩) ?_
  refine T_getfield (v := .ref 99) d_Cu_doubleTimes_139 fg_Cu_52 h_94 rfl ?_
  have p_95 := (RV.kp ((RV.kp ((RV.kp ((RV.kp ((RV.kp (v_72) (Ex.kp e_77) (by decide))) (Ex.kp e_80) (by decide))) (Ex.kp e_84) (by decide))) (Ex.kp e_88) (by decide))) (Ex.kp e_92) (by decide))
  have p_97 := (RV.kp ((RV.kp ((RV.kp ((RV.kp ((RV.kp ((RV.kp ((RV.kp ((RV.kp ((RV.kp ((RV.kp (p_52) (Ex.kp e_54) (by simp only [List.mem_cons, List.not_mem_nil, or_false]; exact (Ne.symm (gt tz (by simp) 98 (by decide)))))) (Ex.kp e_59) (by decide))) (Ex.kp e_64) (by decide))) (Ex.kp e_69) (by decide))) (Ex.kp e_72) (by decide))) (Ex.kp e_77) (by decide))) (Ex.kp e_80) (by decide))) (Ex.kp e_84) (by decide))) (Ex.kp e_88) (by decide))) (Ex.kp e_92) (by decide))
  refine T_vsub d_Cu_doubleTimes_142 (jw_Fi_subtract.jo (by decide)) lm_Cu_70 (Nat.le_of_ble_eq_true rfl) (by decide) (by decide) (by decide) (Rv.rq p_97) p_95 v_92 (by decide) (fun M_96 v_96 e_96 => ?_)
  obtain ⟨x_97, hx_97⟩ : ∃ z : Int, z = (x_72 - x_93) := ⟨_, rfl⟩
  rw [← hx_97] at v_96
  refine T_aload_n (v := .ref to) d_Cu_doubleTimes_145 rfl (Or.inr ⟨_, rfl⟩) ?_
  have h_98 := (e_96 to (gt to (by simp) 98 (by decide))).trans ((e_92 to (gt to (by simp) 99 (by decide))).trans ((e_88 to (gt to (by simp) 97 (by decide))).trans ((e_84 to (gt to (by simp) 100 (by decide))).trans ((e_80 to (gt to (by simp) 97 (by decide))).trans ((e_77 to (gt to (by simp) 97 (by decide))).trans (h_74))))))
  refine T_getfield (v := .ref tx) d_Cu_doubleTimes_146 fg_Cu_67 h_98 rfl ?_
  refine T_aload_n (v := .ref 77) d_Cu_doubleTimes_149 rfl (Or.inr ⟨_, rfl⟩) ?_
  have h_99 := (e_96 77 (by decide)).trans (h_94)
  refine T_getfield (v := .ref 97) d_Cu_doubleTimes_150 fg_Cu_46 h_99 rfl ?_
  refine T_aload_n (v := .ref 77) d_Cu_doubleTimes_153 rfl (Or.inr ⟨_, rfl⟩) ?_
  refine T_getfield (v := .ref 98) d_Cu_doubleTimes_154 fg_Cu_49 h_99 rfl ?_
  have p_100 := (RV.kp ((RV.kp (v_88) (Ex.kp e_92) (by decide))) (Ex.kp e_96) (by decide))
  have p_102 := (RV.kp ((RV.kp ((RV.kp ((RV.kp ((RV.kp ((RV.kp (p_75) (Ex.kp e_77) (by simp only [List.mem_cons, List.not_mem_nil, or_false]; exact (gt tx (by simp) 97 (by decide))))) (Ex.kp e_80) (by simp only [List.mem_cons, List.not_mem_nil, or_false]; exact (gt tx (by simp) 97 (by decide))))) (Ex.kp e_84) (by simp only [List.mem_cons, List.not_mem_nil, or_false]; exact (gt tx (by simp) 100 (by decide))))) (Ex.kp e_88) (by simp only [List.mem_cons, List.not_mem_nil, or_false]; exact (gt tx (by simp) 97 (by decide))))) (Ex.kp e_92) (by simp only [List.mem_cons, List.not_mem_nil, or_false]; exact (gt tx (by simp) 99 (by decide))))) (Ex.kp e_96) (by simp only [List.mem_cons, List.not_mem_nil, or_false]; exact (gt tx (by simp) 98 (by decide))))
  refine T_vmul d_Cu_doubleTimes_157 (jw_Fi_multiply.jo (by decide)) lm_Cu_74 (Nat.le_of_ble_eq_true rfl) (by decide) (by decide) k_tx (Rv.rq p_102) p_100 v_96 (by decide) (fun M_101 v_101 e_101 => ?_)
  obtain ⟨x_102, hx_102⟩ : ∃ z : Int, z = (x_88 * x_97) := ⟨_, rfl⟩
  rw [← hx_102] at v_101
  refine T_aload_n (v := .ref to) d_Cu_doubleTimes_160 rfl (Or.inr ⟨_, rfl⟩) ?_
  have h_103 := (e_101 to m_0).trans (h_98)
  refine T_getfield (v := .ref ty) d_Cu_doubleTimes_161 fg_Cu_64 h_103 rfl ?_
  refine T_aload_n (v := .ref 77) d_Cu_doubleTimes_164 rfl (Or.inr ⟨_, rfl⟩) ?_
  have h_104 := (e_101 77 (Ne.symm (gt tx (by simp) 77 (by decide)))).trans (h_99)
  refine T_getfield (v := .ref 99) d_Cu_doubleTimes_165 fg_Cu_52 h_104 rfl ?_
  refine T_aload_n (v := .ref 77) d_Cu_doubleTimes_168 rfl (Or.inr ⟨_, rfl⟩) ?_
  refine T_getfield (v := .ref 100) d_Cu_doubleTimes_169 fg_Cu_55 h_104 rfl ?_
  have p_105 := (RV.kp ((RV.kp (v_92) (Ex.kp e_96) (by decide))) (Ex.kp e_101) (by simp only [List.mem_cons, List.not_mem_nil, or_false]; exact (Ne.symm (gt tx (by simp) 99 (by decide)))))
  have p_106 := (RV.kp ((RV.kp ((RV.kp ((RV.kp (v_84) (Ex.kp e_88) (by decide))) (Ex.kp e_92) (by decide))) (Ex.kp e_96) (by decide))) (Ex.kp e_101) (by simp only [List.mem_cons, List.not_mem_nil, or_false]; exact (Ne.symm (gt tx (by simp) 100 (by decide)))))
  have p_108 := (RV.kp ((RV.kp ((RV.kp ((RV.kp ((RV.kp ((RV.kp ((RV.kp (p_76) (Ex.kp e_77) (by simp only [List.mem_cons, List.not_mem_nil, or_false]; exact (gt ty (by simp) 97 (by decide))))) (Ex.kp e_80) (by simp only [List.mem_cons, List.not_mem_nil, or_false]; exact (gt ty (by simp) 97 (by decide))))) (Ex.kp e_84) (by simp only [List.mem_cons, List.not_mem_nil, or_false]; exact (gt ty (by simp) 100 (by decide))))) (Ex.kp e_88) (by simp only [List.mem_cons, List.not_mem_nil, or_false]; exact (gt ty (by simp) 97 (by decide))))) (Ex.kp e_92) (by simp only [List.mem_cons, List.not_mem_nil, or_false]; exact (gt ty (by simp) 99 (by decide))))) (Ex.kp e_96) (by simp only [List.mem_cons, List.not_mem_nil, or_false]; exact (gt ty (by simp) 98 (by decide))))) (Ex.kp e_101) (by simp only [List.mem_cons, List.not_mem_nil, or_false]; exact (Ne.symm n_0_1)))
  refine T_vmul d_Cu_doubleTimes_172 (jw_Fi_multiply.jo (by decide)) lm_Cu_74 (Nat.le_of_ble_eq_true rfl) (by decide) (by decide) k_ty (Rv.rq p_108) p_105 p_106 (by decide) (fun M_107 v_107 e_107 => ?_)
  obtain ⟨x_108, hx_108⟩ : ∃ z : Int, z = (x_93 * x_85) := ⟨_, rfl⟩
  rw [← hx_108] at v_107
  refine T_aload_n (v := .ref to) d_Cu_doubleTimes_175 rfl (Or.inr ⟨_, rfl⟩) ?_
  have h_109 := (e_107 to m_1).trans (h_103)
  refine T_getfield (v := .ref tz) d_Cu_doubleTimes_176 fg_Cu_86 h_109 rfl ?_
  refine T_aload_n (v := .ref 77) d_Cu_doubleTimes_179 rfl (Or.inr ⟨_, rfl⟩) ?_
  have h_110 := (e_107 77 (Ne.symm (gt ty (by simp) 77 (by decide)))).trans (h_104)
  refine T_getfield (v := .ref 98) d_Cu_doubleTimes_180 fg_Cu_49 h_110 rfl ?_
  refine T_aload_n (v := .ref 77) d_Cu_doubleTimes_183 rfl (Or.inr ⟨_, rfl⟩) ?_
  refine T_getfield (v := .ref 99) d_Cu_doubleTimes_184 fg_Cu_52 h_110 rfl ?_
  have p_111 := (RV.kp ((RV.kp (v_96) (Ex.kp e_101) (by simp only [List.mem_cons, List.not_mem_nil, or_false]; exact (Ne.symm (gt tx (by simp) 98 (by decide)))))) (Ex.kp e_107) (by simp only [List.mem_cons, List.not_mem_nil, or_false]; exact (Ne.symm (gt ty (by simp) 98 (by decide)))))
  have p_112 := (RV.kp (p_105) (Ex.kp e_107) (by simp only [List.mem_cons, List.not_mem_nil, or_false]; exact (Ne.symm (gt ty (by simp) 99 (by decide)))))
  have p_114 := (RV.kp ((RV.kp ((RV.kp ((RV.kp ((RV.kp ((RV.kp ((RV.kp ((RV.kp ((RV.kp ((RV.kp (p_68) (Ex.kp e_69) (by simp only [List.mem_cons, List.not_mem_nil, or_false]; exact (gt tz (by simp) 96 (by decide))))) (Ex.kp e_72) (by simp only [List.mem_cons, List.not_mem_nil, or_false]; exact (gt tz (by simp) 96 (by decide))))) (Ex.kp e_77) (by simp only [List.mem_cons, List.not_mem_nil, or_false]; exact (gt tz (by simp) 97 (by decide))))) (Ex.kp e_80) (by simp only [List.mem_cons, List.not_mem_nil, or_false]; exact (gt tz (by simp) 97 (by decide))))) (Ex.kp e_84) (by simp only [List.mem_cons, List.not_mem_nil, or_false]; exact (gt tz (by simp) 100 (by decide))))) (Ex.kp e_88) (by simp only [List.mem_cons, List.not_mem_nil, or_false]; exact (gt tz (by simp) 97 (by decide))))) (Ex.kp e_92) (by simp only [List.mem_cons, List.not_mem_nil, or_false]; exact (gt tz (by simp) 99 (by decide))))) (Ex.kp e_96) (by simp only [List.mem_cons, List.not_mem_nil, or_false]; exact (gt tz (by simp) 98 (by decide))))) (Ex.kp e_101) (by simp only [List.mem_cons, List.not_mem_nil, or_false]; exact (Ne.symm n_0_2)))) (Ex.kp e_107) (by simp only [List.mem_cons, List.not_mem_nil, or_false]; exact (Ne.symm n_1_2)))
  refine T_vmul d_Cu_doubleTimes_187 (jw_Fi_multiply.jo (by decide)) lm_Cu_74 (Nat.le_of_ble_eq_true rfl) (by decide) (by decide) k_tz (Rv.rq p_114) p_111 p_112 (by decide) (fun M_113 v_113 e_113 => ?_)
  obtain ⟨x_114, hx_114⟩ : ∃ z : Int, z = (x_97 * x_93) := ⟨_, rfl⟩
  rw [← hx_114] at v_113
  have K2 := pj_dblC (X := ph x_43) (Y := ph x_49) (Z := ph x_55) (cvF.onP oP oP) K1.1 K1.2.1 K1.2.2.1 (a := ph x_60) (b := ph x_65) (c := ph x_72) (e0 := ph x_80) (e := ph x_88) (g := ph x_93) (f := ph x_97) (h := ph x_85) (x := ph x_102) (y := ph x_108) (z := ph x_114) (by rw [hx_60, ph_mul]) (by rw [hx_65, ph_mul]) (by rw [hx_72, ph_add, hx_70, ph_mul]) (by rw [hx_80, ph_mul, hx_78, ph_add]) (by rw [hx_85, ph_add]) (by rw [hx_88, ph_sub]) (by rw [hx_93, ph_sub]) (by rw [hx_97, ph_sub]) (by rw [hx_102, ph_mul]) (by rw [hx_108, ph_mul]) (by rw [hx_114, ph_mul])
  refine N_iinc (k := 1) (m := 1) (c := 2) (L' := [(3, .int (nI 2)), (0, .ref 77), (1, .ref to), (2, .int (nI 4))]) d_Cu_doubleTimes_190 (by decide) rfl (by decide) rfl rfl ?_
  refine T_goto (tgt := 2) d_Cu_doubleTimes_193 rfl ?_
  refine T_iload_n d_Cu_doubleTimes_2 rfl ?_
  refine T_iload_n d_Cu_doubleTimes_3 rfl ?_
  refine N_icmp_ge_f (a := 4) (b := 2) d_Cu_doubleTimes_4 (tgt := 196) rfl (by omega) (by omega) (by omega) ?_
  refine T_aload_n (v := .ref 77) d_Cu_doubleTimes_7 rfl (Or.inr ⟨_, rfl⟩) ?_
  have h_115 := (e_113 77 (Ne.symm (gt tz (by simp) 77 (by decide)))).trans (h_110)
  refine T_getfield (v := .ref 94) d_Cu_doubleTimes_8 fg_Cu_36 h_115 rfl ?_
  refine T_aload_n (v := .ref to) d_Cu_doubleTimes_11 rfl (Or.inr ⟨_, rfl⟩) ?_
  have h_116 := (e_113 to m_2).trans (h_109)
  refine T_getfield (v := .ref tx) d_Cu_doubleTimes_12 fg_Cu_67 h_116 rfl ?_
  refine T_iconst (v := nI 1) d_Cu_doubleTimes_15 (by decide) ?_
  have p_117 := (RV.kp ((RV.kp (v_101) (Ex.kp e_107) (by simp only [List.mem_cons, List.not_mem_nil, or_false]; exact n_0_1))) (Ex.kp e_113) (by simp only [List.mem_cons, List.not_mem_nil, or_false]; exact n_0_2))
  have p_119 := (RV.kp ((RV.kp ((RV.kp ((RV.kp ((RV.kp (p_91) (Ex.kp e_92) (by decide))) (Ex.kp e_96) (by decide))) (Ex.kp e_101) (by simp only [List.mem_cons, List.not_mem_nil, or_false]; exact (Ne.symm (gt tx (by simp) 94 (by decide)))))) (Ex.kp e_107) (by simp only [List.mem_cons, List.not_mem_nil, or_false]; exact (Ne.symm (gt ty (by simp) 94 (by decide)))))) (Ex.kp e_113) (by simp only [List.mem_cons, List.not_mem_nil, or_false]; exact (Ne.symm (gt tz (by simp) 94 (by decide)))))
  refine T_vsq1 d_Cu_doubleTimes_16 (jw_Fi_square.jo (by decide)) lm_Cu_89 (Nat.le_of_ble_eq_true rfl) (by decide) (by decide) (by decide) (Rv.rq p_119) p_117 (by decide) (fun M_118 v_118 e_118 => ?_)
  obtain ⟨x_119, hx_119⟩ : ∃ z : Int, z = (x_102 * x_102) := ⟨_, rfl⟩
  rw [← hx_119] at v_118
  refine T_aload_n (v := .ref 77) d_Cu_doubleTimes_19 rfl (Or.inr ⟨_, rfl⟩) ?_
  have h_120 := (e_118 77 (by decide)).trans (h_115)
  refine T_getfield (v := .ref 95) d_Cu_doubleTimes_20 fg_Cu_40 h_120 rfl ?_
  refine T_aload_n (v := .ref to) d_Cu_doubleTimes_23 rfl (Or.inr ⟨_, rfl⟩) ?_
  have h_121 := (e_118 to (gt to (by simp) 94 (by decide))).trans (h_116)
  refine T_getfield (v := .ref ty) d_Cu_doubleTimes_24 fg_Cu_64 h_121 rfl ?_
  refine T_iconst (v := nI 1) d_Cu_doubleTimes_27 (by decide) ?_
  have p_122 := (RV.kp ((RV.kp (v_107) (Ex.kp e_113) (by simp only [List.mem_cons, List.not_mem_nil, or_false]; exact n_1_2))) (Ex.kp e_118) (by simp only [List.mem_cons, List.not_mem_nil, or_false]; exact (gt ty (by simp) 94 (by decide))))
  have p_124 := (RV.kp ((RV.kp ((RV.kp ((RV.kp ((RV.kp ((RV.kp (p_90) (Ex.kp e_92) (by decide))) (Ex.kp e_96) (by decide))) (Ex.kp e_101) (by simp only [List.mem_cons, List.not_mem_nil, or_false]; exact (Ne.symm (gt tx (by simp) 95 (by decide)))))) (Ex.kp e_107) (by simp only [List.mem_cons, List.not_mem_nil, or_false]; exact (Ne.symm (gt ty (by simp) 95 (by decide)))))) (Ex.kp e_113) (by simp only [List.mem_cons, List.not_mem_nil, or_false]; exact (Ne.symm (gt tz (by simp) 95 (by decide)))))) (Ex.kp e_118) (by decide))
  refine T_vsq1 d_Cu_doubleTimes_28 (jw_Fi_square.jo (by decide)) lm_Cu_89 (Nat.le_of_ble_eq_true rfl) (by decide) (by decide) (by decide) (Rv.rq p_124) p_122 (by decide) (fun M_123 v_123 e_123 => ?_)
  obtain ⟨x_124, hx_124⟩ : ∃ z : Int, z = (x_108 * x_108) := ⟨_, rfl⟩
  rw [← hx_124] at v_123
  refine T_aload_n (v := .ref 77) d_Cu_doubleTimes_31 rfl (Or.inr ⟨_, rfl⟩) ?_
  have h_125 := (e_123 77 (by decide)).trans (h_120)
  refine T_getfield (v := .ref 96) d_Cu_doubleTimes_32 fg_Cu_43 h_125 rfl ?_
  refine T_aload_n (v := .ref to) d_Cu_doubleTimes_35 rfl (Or.inr ⟨_, rfl⟩) ?_
  have h_126 := (e_123 to (gt to (by simp) 95 (by decide))).trans (h_121)
  refine T_getfield (v := .ref tz) d_Cu_doubleTimes_36 fg_Cu_86 h_126 rfl ?_
  refine T_iconst (v := nI 1) d_Cu_doubleTimes_39 (by decide) ?_
  have p_127 := (RV.kp ((RV.kp (v_113) (Ex.kp e_118) (by simp only [List.mem_cons, List.not_mem_nil, or_false]; exact (gt tz (by simp) 94 (by decide))))) (Ex.kp e_123) (by simp only [List.mem_cons, List.not_mem_nil, or_false]; exact (gt tz (by simp) 95 (by decide))))
  have p_129 := (RV.kp ((RV.kp ((RV.kp ((RV.kp ((RV.kp ((RV.kp (p_95) (Ex.kp e_96) (by decide))) (Ex.kp e_101) (by simp only [List.mem_cons, List.not_mem_nil, or_false]; exact (Ne.symm (gt tx (by simp) 96 (by decide)))))) (Ex.kp e_107) (by simp only [List.mem_cons, List.not_mem_nil, or_false]; exact (Ne.symm (gt ty (by simp) 96 (by decide)))))) (Ex.kp e_113) (by simp only [List.mem_cons, List.not_mem_nil, or_false]; exact (Ne.symm (gt tz (by simp) 96 (by decide)))))) (Ex.kp e_118) (by decide))) (Ex.kp e_123) (by decide))
  refine T_vsq1 d_Cu_doubleTimes_40 (jw_Fi_square.jo (by decide)) lm_Cu_89 (Nat.le_of_ble_eq_true rfl) (by decide) (by decide) (by decide) (Rv.rq p_129) p_127 (by decide) (fun M_128 v_128 e_128 => ?_)
  obtain ⟨x_129, hx_129⟩ : ∃ z : Int, z = (x_114 * x_114) := ⟨_, rfl⟩
  rw [← hx_129] at v_128
  refine T_aload_n (v := .ref 77) d_Cu_doubleTimes_43 rfl (Or.inr ⟨_, rfl⟩) ?_
  have h_130 := (e_128 77 (by decide)).trans (h_125)
  refine T_getfield (v := .ref 96) d_Cu_doubleTimes_44 fg_Cu_43 h_130 rfl ?_
  refine T_aload_n (v := .ref 77) d_Cu_doubleTimes_47 rfl (Or.inr ⟨_, rfl⟩) ?_
  refine T_getfield (v := .ref 96) d_Cu_doubleTimes_48 fg_Cu_43 h_130 rfl ?_
  refine T_aload_n (v := .ref 77) d_Cu_doubleTimes_51 rfl (Or.inr ⟨_, rfl⟩) ?_
  refine T_getfield (v := .ref 96) d_Cu_doubleTimes_52 fg_Cu_43 h_130 rfl ?_
  refine T_vadd d_Cu_doubleTimes_55 (jw_Fi_add.jo (by decide)) lm_Cu_77 (Nat.le_of_ble_eq_true rfl) (by decide) (by decide) (by decide) (Rv.rq v_128) v_128 v_128 (by decide) (fun M_131 v_131 e_131 => ?_)
  obtain ⟨x_131, hx_131⟩ : ∃ z : Int, z = (x_129 + x_129) := ⟨_, rfl⟩
  rw [← hx_131] at v_131
  refine T_aload_n (v := .ref 77) d_Cu_doubleTimes_58 rfl (Or.inr ⟨_, rfl⟩) ?_
  have h_132 := (e_131 77 (by decide)).trans (h_130)
  refine T_getfield (v := .ref 97) d_Cu_doubleTimes_59 fg_Cu_46 h_132 rfl ?_
  refine T_aload_n (v := .ref to) d_Cu_doubleTimes_62 rfl (Or.inr ⟨_, rfl⟩) ?_
  have h_133 := (e_131 to (gt to (by simp) 96 (by decide))).trans ((e_128 to (gt to (by simp) 96 (by decide))).trans (h_126))
  refine T_getfield (v := .ref tx) d_Cu_doubleTimes_63 fg_Cu_67 h_133 rfl ?_
  refine T_aload_n (v := .ref to) d_Cu_doubleTimes_66 rfl (Or.inr ⟨_, rfl⟩) ?_
  refine T_getfield (v := .ref ty) d_Cu_doubleTimes_67 fg_Cu_64 h_133 rfl ?_
  have p_134 := (RV.kp ((RV.kp ((RV.kp ((RV.kp (p_117) (Ex.kp e_118) (by simp only [List.mem_cons, List.not_mem_nil, or_false]; exact (gt tx (by simp) 94 (by decide))))) (Ex.kp e_123) (by simp only [List.mem_cons, List.not_mem_nil, or_false]; exact (gt tx (by simp) 95 (by decide))))) (Ex.kp e_128) (by simp only [List.mem_cons, List.not_mem_nil, or_false]; exact (gt tx (by simp) 96 (by decide))))) (Ex.kp e_131) (by simp only [List.mem_cons, List.not_mem_nil, or_false]; exact (gt tx (by simp) 96 (by decide))))
  have p_135 := (RV.kp ((RV.kp ((RV.kp (p_122) (Ex.kp e_123) (by simp only [List.mem_cons, List.not_mem_nil, or_false]; exact (gt ty (by simp) 95 (by decide))))) (Ex.kp e_128) (by simp only [List.mem_cons, List.not_mem_nil, or_false]; exact (gt ty (by simp) 96 (by decide))))) (Ex.kp e_131) (by simp only [List.mem_cons, List.not_mem_nil, or_false]; exact (gt ty (by simp) 96 (by decide))))
  have p_137 := (RV.kp ((RV.kp ((RV.kp ((RV.kp ((RV.kp ((RV.kp ((RV.kp (p_100) (Ex.kp e_101) (by simp only [List.mem_cons, List.not_mem_nil, or_false]; exact (Ne.symm (gt tx (by simp) 97 (by decide)))))) (Ex.kp e_107) (by simp only [List.mem_cons, List.not_mem_nil, or_false]; exact (Ne.symm (gt ty (by simp) 97 (by decide)))))) (Ex.kp e_113) (by simp only [List.mem_cons, List.not_mem_nil, or_false]; exact (Ne.symm (gt tz (by simp) 97 (by decide)))))) (Ex.kp e_118) (by decide))) (Ex.kp e_123) (by decide))) (Ex.kp e_128) (by decide))) (Ex.kp e_131) (by decide))
  refine T_vadd d_Cu_doubleTimes_70 (jw_Fi_add.jo (by decide)) lm_Cu_77 (Nat.le_of_ble_eq_true rfl) (by decide) (by decide) (by decide) (Rv.rq p_137) p_134 p_135 (by decide) (fun M_136 v_136 e_136 => ?_)
  obtain ⟨x_137, hx_137⟩ : ∃ z : Int, z = (x_102 + x_108) := ⟨_, rfl⟩
  rw [← hx_137] at v_136
  refine T_aload_n (v := .ref 77) d_Cu_doubleTimes_73 rfl (Or.inr ⟨_, rfl⟩) ?_
  have h_138 := (e_136 77 (by decide)).trans (h_132)
  refine T_getfield (v := .ref 97) d_Cu_doubleTimes_74 fg_Cu_46 h_138 rfl ?_
  refine T_aload_n (v := .ref 77) d_Cu_doubleTimes_77 rfl (Or.inr ⟨_, rfl⟩) ?_
  refine T_getfield (v := .ref 97) d_Cu_doubleTimes_78 fg_Cu_46 h_138 rfl ?_
  refine T_iconst (v := nI 1) d_Cu_doubleTimes_81 (by decide) ?_
  refine T_vsq1 d_Cu_doubleTimes_82 (jw_Fi_square.jo (by decide)) lm_Cu_89 (Nat.le_of_ble_eq_true rfl) (by decide) (by decide) (by decide) (Rv.rq v_136) v_136 (by decide) (fun M_139 v_139 e_139 => ?_)
  obtain ⟨x_139, hx_139⟩ : ∃ z : Int, z = (x_137 * x_137) := ⟨_, rfl⟩
  rw [← hx_139] at v_139
  refine T_aload_n (v := .ref 77) d_Cu_doubleTimes_85 rfl (Or.inr ⟨_, rfl⟩) ?_
  have h_140 := (e_139 77 (by decide)).trans (h_138)
  refine T_getfield (v := .ref 100) d_Cu_doubleTimes_86 fg_Cu_55 h_140 rfl ?_
  refine T_aload_n (v := .ref 77) d_Cu_doubleTimes_89 rfl (Or.inr ⟨_, rfl⟩) ?_
  refine T_getfield (v := .ref 94) d_Cu_doubleTimes_90 fg_Cu_36 h_140 rfl ?_
  refine T_aload_n (v := .ref 77) d_Cu_doubleTimes_93 rfl (Or.inr ⟨_, rfl⟩) ?_
  refine T_getfield (v := .ref 95) d_Cu_doubleTimes_94 fg_Cu_40 h_140 rfl ?_
  have p_141 := (RV.kp ((RV.kp ((RV.kp ((RV.kp ((RV.kp (v_118) (Ex.kp e_123) (by decide))) (Ex.kp e_128) (by decide))) (Ex.kp e_131) (by decide))) (Ex.kp e_136) (by decide))) (Ex.kp e_139) (by decide))
  have p_142 := (RV.kp ((RV.kp ((RV.kp ((RV.kp (v_123) (Ex.kp e_128) (by decide))) (Ex.kp e_131) (by decide))) (Ex.kp e_136) (by decide))) (Ex.kp e_139) (by decide))
  have p_144 := (RV.kp ((RV.kp ((RV.kp ((RV.kp ((RV.kp ((RV.kp ((RV.kp ((RV.kp (p_106) (Ex.kp e_107) (by simp only [List.mem_cons, List.not_mem_nil, or_false]; exact (Ne.symm (gt ty (by simp) 100 (by decide)))))) (Ex.kp e_113) (by simp only [List.mem_cons, List.not_mem_nil, or_false]; exact (Ne.symm (gt tz (by simp) 100 (by decide)))))) (Ex.kp e_118) (by decide))) (Ex.kp e_123) (by decide))) (Ex.kp e_128) (by decide))) (Ex.kp e_131) (by decide))) (Ex.kp e_136) (by decide))) (Ex.kp e_139) (by decide))
  refine T_vadd d_Cu_doubleTimes_97 (jw_Fi_add.jo (by decide)) lm_Cu_77 (Nat.le_of_ble_eq_true rfl) (by decide) (by decide) (by decide) (Rv.rq p_144) p_141 p_142 (by decide) (fun M_143 v_143 e_143 => ?_)
  obtain ⟨x_144, hx_144⟩ : ∃ z : Int, z = (x_119 + x_124) := ⟨_, rfl⟩
  rw [← hx_144] at v_143
  refine T_aload_n (v := .ref 77) d_Cu_doubleTimes_100 rfl (Or.inr ⟨_, rfl⟩) ?_
  have h_145 := (e_143 77 (by decide)).trans (h_140)
  refine T_getfield (v := .ref 97) d_Cu_doubleTimes_101 fg_Cu_46 h_145 rfl ?_
  refine T_aload_n (v := .ref 77) d_Cu_doubleTimes_104 rfl (Or.inr ⟨_, rfl⟩) ?_
  refine T_getfield (v := .ref 97) d_Cu_doubleTimes_105 fg_Cu_46 h_145 rfl ?_
  refine T_aload_n (v := .ref 77) d_Cu_doubleTimes_108 rfl (Or.inr ⟨_, rfl⟩) ?_
  refine T_getfield (v := .ref 100) d_Cu_doubleTimes_109 fg_Cu_55 h_145 rfl ?_
  have p_146 := (RV.kp (v_139) (Ex.kp e_143) (by decide))
  refine T_vsub d_Cu_doubleTimes_112 (jw_Fi_subtract.jo (by decide)) lm_Cu_70 (Nat.le_of_ble_eq_true rfl) (by decide) (by decide) (by decide) (Rv.rq p_146) p_146 v_143 (by decide) (fun M_147 v_147 e_147 => ?_)
  obtain ⟨x_147, hx_147⟩ : ∃ z : Int, z = (x_139 - x_144) := ⟨_, rfl⟩
  rw [← hx_147] at v_147
  refine T_aload_n (v := .ref 77) d_Cu_doubleTimes_115 rfl (Or.inr ⟨_, rfl⟩) ?_
  have h_148 := (e_147 77 (by decide)).trans (h_145)
  refine T_getfield (v := .ref 99) d_Cu_doubleTimes_116 fg_Cu_52 h_148 rfl ?_
  refine T_aload_n (v := .ref 77) d_Cu_doubleTimes_119 rfl (Or.inr ⟨_, rfl⟩) ?_
  refine T_getfield (v := .ref 95) d_Cu_doubleTimes_120 fg_Cu_40 h_148 rfl ?_
  refine T_aload_n (v := .ref 77) d_Cu_doubleTimes_123 rfl (Or.inr ⟨_, rfl⟩) ?_
  refine T_getfield (v := .ref 94) d_Cu_doubleTimes_124 fg_Cu_36 h_148 rfl ?_
  have p_149 := (RV.kp ((RV.kp (p_142) (Ex.kp e_143) (by decide))) (Ex.kp e_147) (by decide))
  have p_150 := (RV.kp ((RV.kp (p_141) (Ex.kp e_143) (by decide))) (Ex.kp e_147) (by decide))
  have p_152 := (RV.kp ((RV.kp ((RV.kp ((RV.kp ((RV.kp ((RV.kp ((RV.kp ((RV.kp ((RV.kp (p_112) (Ex.kp e_113) (by simp only [List.mem_cons, List.not_mem_nil, or_false]; exact (Ne.symm (gt tz (by simp) 99 (by decide)))))) (Ex.kp e_118) (by decide))) (Ex.kp e_123) (by decide))) (Ex.kp e_128) (by decide))) (Ex.kp e_131) (by decide))) (Ex.kp e_136) (by decide))) (Ex.kp e_139) (by decide))) (Ex.kp e_143) (by decide))) (Ex.kp e_147) (by decide))
  refine T_vsub d_Cu_doubleTimes_127 (jw_Fi_subtract.jo (by decide)) lm_Cu_70 (Nat.le_of_ble_eq_true rfl) (by decide) (by decide) (by decide) (Rv.rq p_152) p_149 p_150 (by decide) (fun M_151 v_151 e_151 => ?_)
  obtain ⟨x_152, hx_152⟩ : ∃ z : Int, z = (x_124 - x_119) := ⟨_, rfl⟩
  rw [← hx_152] at v_151
  refine T_aload_n (v := .ref 77) d_Cu_doubleTimes_130 rfl (Or.inr ⟨_, rfl⟩) ?_
  have h_153 := (e_151 77 (by decide)).trans (h_148)
  refine T_getfield (v := .ref 98) d_Cu_doubleTimes_131 fg_Cu_49 h_153 rfl ?_
  refine T_aload_n (v := .ref 77) d_Cu_doubleTimes_134 rfl (Or.inr ⟨_, rfl⟩) ?_
  refine T_getfield (v := .ref 96) d_Cu_doubleTimes_135 fg_Cu_43 h_153 rfl ?_
  refine T_aload_n (v := .ref 77) d_Cu_doubleTimes_138 rfl (Or.inr ⟨_, rfl⟩) ?_
  refine T_getfield (v := .ref 99) d_Cu_doubleTimes_139 fg_Cu_52 h_153 rfl ?_
  have p_154 := (RV.kp ((RV.kp ((RV.kp ((RV.kp ((RV.kp (v_131) (Ex.kp e_136) (by decide))) (Ex.kp e_139) (by decide))) (Ex.kp e_143) (by decide))) (Ex.kp e_147) (by decide))) (Ex.kp e_151) (by decide))
  have p_156 := (RV.kp ((RV.kp ((RV.kp ((RV.kp ((RV.kp ((RV.kp ((RV.kp ((RV.kp ((RV.kp ((RV.kp (p_111) (Ex.kp e_113) (by simp only [List.mem_cons, List.not_mem_nil, or_false]; exact (Ne.symm (gt tz (by simp) 98 (by decide)))))) (Ex.kp e_118) (by decide))) (Ex.kp e_123) (by decide))) (Ex.kp e_128) (by decide))) (Ex.kp e_131) (by decide))) (Ex.kp e_136) (by decide))) (Ex.kp e_139) (by decide))) (Ex.kp e_143) (by decide))) (Ex.kp e_147) (by decide))) (Ex.kp e_151) (by decide))
  refine T_vsub d_Cu_doubleTimes_142 (jw_Fi_subtract.jo (by decide)) lm_Cu_70 (Nat.le_of_ble_eq_true rfl) (by decide) (by decide) (by decide) (Rv.rq p_156) p_154 v_151 (by decide) (fun M_155 v_155 e_155 => ?_)
  obtain ⟨x_156, hx_156⟩ : ∃ z : Int, z = (x_131 - x_152) := ⟨_, rfl⟩
  rw [← hx_156] at v_155
  refine T_aload_n (v := .ref to) d_Cu_doubleTimes_145 rfl (Or.inr ⟨_, rfl⟩) ?_
  have h_157 := (e_155 to (gt to (by simp) 98 (by decide))).trans ((e_151 to (gt to (by simp) 99 (by decide))).trans ((e_147 to (gt to (by simp) 97 (by decide))).trans ((e_143 to (gt to (by simp) 100 (by decide))).trans ((e_139 to (gt to (by simp) 97 (by decide))).trans ((e_136 to (gt to (by simp) 97 (by decide))).trans (h_133))))))
  refine T_getfield (v := .ref tx) d_Cu_doubleTimes_146 fg_Cu_67 h_157 rfl ?_
  refine T_aload_n (v := .ref 77) d_Cu_doubleTimes_149 rfl (Or.inr ⟨_, rfl⟩) ?_
  have h_158 := (e_155 77 (by decide)).trans (h_153)
  refine T_getfield (v := .ref 97) d_Cu_doubleTimes_150 fg_Cu_46 h_158 rfl ?_
  refine T_aload_n (v := .ref 77) d_Cu_doubleTimes_153 rfl (Or.inr ⟨_, rfl⟩) ?_
  refine T_getfield (v := .ref 98) d_Cu_doubleTimes_154 fg_Cu_49 h_158 rfl ?_
  have p_159 := (RV.kp ((RV.kp (v_147) (Ex.kp e_151) (by decide))) (Ex.kp e_155) (by decide))
  have p_161 := (RV.kp ((RV.kp ((RV.kp ((RV.kp ((RV.kp ((RV.kp (p_134) (Ex.kp e_136) (by simp only [List.mem_cons, List.not_mem_nil, or_false]; exact (gt tx (by simp) 97 (by decide))))) (Ex.kp e_139) (by simp only [List.mem_cons, List.not_mem_nil, or_false]; exact (gt tx (by simp) 97 (by decide))))) (Ex.kp e_143) (by simp only [List.mem_cons, List.not_mem_nil, or_false]; exact (gt tx (by simp) 100 (by decide))))) (Ex.kp e_147) (by simp only [List.mem_cons, List.not_mem_nil, or_false]; exact (gt tx (by simp) 97 (by decide))))) (Ex.kp e_151) (by simp only [List.mem_cons, List.not_mem_nil, or_false]; exact (gt tx (by simp) 99 (by decide))))) (Ex.kp e_155) (by simp only [List.mem_cons, List.not_mem_nil, or_false]; exact (gt tx (by simp) 98 (by decide))))
  refine T_vmul d_Cu_doubleTimes_157 (jw_Fi_multiply.jo (by decide)) lm_Cu_74 (Nat.le_of_ble_eq_true rfl) (by decide) (by decide) k_tx (Rv.rq p_161) p_159 v_155 (by decide) (fun M_160 v_160 e_160 => ?_)
  obtain ⟨x_161, hx_161⟩ : ∃ z : Int, z = (x_147 * x_156) := ⟨_, rfl⟩
  rw [← hx_161] at v_160
  refine T_aload_n (v := .ref to) d_Cu_doubleTimes_160 rfl (Or.inr ⟨_, rfl⟩) ?_
  have h_162 := (e_160 to m_0).trans (h_157)
  refine T_getfield (v := .ref ty) d_Cu_doubleTimes_161 fg_Cu_64 h_162 rfl ?_
  refine T_aload_n (v := .ref 77) d_Cu_doubleTimes_164 rfl (Or.inr ⟨_, rfl⟩) ?_
  have h_163 := (e_160 77 (Ne.symm (gt tx (by simp) 77 (by decide)))).trans (h_158)
  refine T_getfield (v := .ref 99) d_Cu_doubleTimes_165 fg_Cu_52 h_163 rfl ?_
  refine T_aload_n (v := .ref 77) d_Cu_doubleTimes_168 rfl (Or.inr ⟨_, rfl⟩) ?_
  refine T_getfield (v := .ref 100) d_Cu_doubleTimes_169 fg_Cu_55 h_163 rfl ?_
  have p_164 := (RV.kp ((RV.kp (v_151) (Ex.kp e_155) (by decide))) (Ex.kp e_160) (by simp only [List.mem_cons, List.not_mem_nil, or_false]; exact (Ne.symm (gt tx (by simp) 99 (by decide)))))
  have p_165 := (RV.kp ((RV.kp ((RV.kp ((RV.kp (v_143) (Ex.kp e_147) (by decide))) (Ex.kp e_151) (by decide))) (Ex.kp e_155) (by decide))) (Ex.kp e_160) (by simp only [List.mem_cons, List.not_mem_nil, or_false]; exact (Ne.symm (gt tx (by simp) 100 (by decide)))))
  have p_167 := (RV.kp ((RV.kp ((RV.kp ((RV.kp ((RV.kp ((RV.kp ((RV.kp (p_135) (Ex.kp e_136) (by simp only [List.mem_cons, List.not_mem_nil, or_false]; exact (gt ty (by simp) 97 (by decide))))) (Ex.kp e_139) (by simp only [List.mem_cons, List.not_mem_nil, or_false]; exact (gt ty (by simp) 97 (by decide))))) (Ex.kp e_143) (by simp only [List.mem_cons, List.not_mem_nil, or_false]; exact (gt ty (by simp) 100 (by decide))))) (Ex.kp e_147) (by simp only [List.mem_cons, List.not_mem_nil, or_false]; exact (gt ty (by simp) 97 (by decide))))) (Ex.kp e_151) (by simp only [List.mem_cons, List.not_mem_nil, or_false]; exact (gt ty (by simp) 99 (by decide))))) (Ex.kp e_155) (by simp only [List.mem_cons, List.not_mem_nil, or_false]; exact (gt ty (by simp) 98 (by decide))))) (Ex.kp e_160) (by simp only [List.mem_cons, List.not_mem_nil, or_false]; exact (Ne.symm n_0_1)))
  refine T_vmul d_Cu_doubleTimes_172 (jw_Fi_multiply.jo (by decide)) lm_Cu_74 (Nat.le_of_ble_eq_true rfl) (by decide) (by decide) k_ty (Rv.rq p_167) p_164 p_165 (by decide) (fun M_166 v_166 e_166 => ?_)
  obtain ⟨x_167, hx_167⟩ : ∃ z : Int, z = (x_152 * x_144) := ⟨_, rfl⟩
  rw [← hx_167] at v_166
  refine T_aload_n (v := .ref to) d_Cu_doubleTimes_175 rfl (Or.inr ⟨_, rfl⟩) ?_
  have h_168 := (e_166 to m_1).trans (h_162)
  refine T_getfield (v := .ref tz) d_Cu_doubleTimes_176 fg_Cu_86 h_168 rfl ?_
  refine T_aload_n (v := .ref 77) d_Cu_doubleTimes_179 rfl (Or.inr ⟨_, rfl⟩) ?_
  have h_169 := (e_166 77 (Ne.symm (gt ty (by simp) 77 (by decide)))).trans (h_163)
  refine T_getfield (v := .ref 98) d_Cu_doubleTimes_180 fg_Cu_49 h_169 rfl ?_
  refine T_aload_n (v := .ref 77) d_Cu_doubleTimes_183 rfl (Or.inr ⟨_, rfl⟩) ?_
  refine T_getfield (v := .ref 99) d_Cu_doubleTimes_184 fg_Cu_52 h_169 rfl ?_
  have p_170 := (RV.kp ((RV.kp (v_155) (Ex.kp e_160) (by simp only [List.mem_cons, List.not_mem_nil, or_false]; exact (Ne.symm (gt tx (by simp) 98 (by decide)))))) (Ex.kp e_166) (by simp only [List.mem_cons, List.not_mem_nil, or_false]; exact (Ne.symm (gt ty (by simp) 98 (by decide)))))
  have p_171 := (RV.kp (p_164) (Ex.kp e_166) (by simp only [List.mem_cons, List.not_mem_nil, or_false]; exact (Ne.symm (gt ty (by simp) 99 (by decide)))))
  have p_173 := (RV.kp ((RV.kp ((RV.kp ((RV.kp ((RV.kp ((RV.kp ((RV.kp ((RV.kp ((RV.kp ((RV.kp (p_127) (Ex.kp e_128) (by simp only [List.mem_cons, List.not_mem_nil, or_false]; exact (gt tz (by simp) 96 (by decide))))) (Ex.kp e_131) (by simp only [List.mem_cons, List.not_mem_nil, or_false]; exact (gt tz (by simp) 96 (by decide))))) (Ex.kp e_136) (by simp only [List.mem_cons, List.not_mem_nil, or_false]; exact (gt tz (by simp) 97 (by decide))))) (Ex.kp e_139) (by simp only [List.mem_cons, List.not_mem_nil, or_false]; exact (gt tz (by simp) 97 (by decide))))) (Ex.kp e_143) (by simp only [List.mem_cons, List.not_mem_nil, or_false]; exact (gt tz (by simp) 100 (by decide))))) (Ex.kp e_147) (by simp only [List.mem_cons, List.not_mem_nil, or_false]; exact (gt tz (by simp) 97 (by decide))))) (Ex.kp e_151) (by simp only [List.mem_cons, List.not_mem_nil, or_false]; exact (gt tz (by simp) 99 (by decide))))) (Ex.kp e_155) (by simp only [List.mem_cons, List.not_mem_nil, or_false]; exact (gt tz (by simp) 98 (by decide))))) (Ex.kp e_160) (by simp only [List.mem_cons, List.not_mem_nil, or_false]; exact (Ne.symm n_0_2)))) (Ex.kp e_166) (by simp only [List.mem_cons, List.not_mem_nil, or_false]; exact (Ne.symm n_1_2)))
  refine T_vmul d_Cu_doubleTimes_187 (jw_Fi_multiply.jo (by decide)) lm_Cu_74 (Nat.le_of_ble_eq_true rfl) (by decide) (by decide) k_tz (Rv.rq p_173) p_170 p_171 (by decide) (fun M_172 v_172 e_172 => ?_)
  obtain ⟨x_173, hx_173⟩ : ∃ z : Int, z = (x_156 * x_152) := ⟨_, rfl⟩
  rw [← hx_173] at v_172
  have K3 := pj_dblC (X := ph x_102) (Y := ph x_108) (Z := ph x_114) (cvF.onP (cvF.onP oP oP) (cvF.onP oP oP)) K2.1 K2.2.1 K2.2.2.1 (a := ph x_119) (b := ph x_124) (c := ph x_131) (e0 := ph x_139) (e := ph x_147) (g := ph x_152) (f := ph x_156) (h := ph x_144) (x := ph x_161) (y := ph x_167) (z := ph x_173) (by rw [hx_119, ph_mul]) (by rw [hx_124, ph_mul]) (by rw [hx_131, ph_add, hx_129, ph_mul]) (by rw [hx_139, ph_mul, hx_137, ph_add]) (by rw [hx_144, ph_add]) (by rw [hx_147, ph_sub]) (by rw [hx_152, ph_sub]) (by rw [hx_156, ph_sub]) (by rw [hx_161, ph_mul]) (by rw [hx_167, ph_mul]) (by rw [hx_173, ph_mul])
  refine N_iinc (k := 2) (m := 1) (c := 3) (L' := [(3, .int (nI 3)), (0, .ref 77), (1, .ref to), (2, .int (nI 4))]) d_Cu_doubleTimes_190 (by decide) rfl (by decide) rfl rfl ?_
  refine T_goto (tgt := 2) d_Cu_doubleTimes_193 rfl ?_
  refine T_iload_n d_Cu_doubleTimes_2 rfl ?_
  refine T_iload_n d_Cu_doubleTimes_3 rfl ?_
  refine N_icmp_ge_f (a := 4) (b := 3) d_Cu_doubleTimes_4 (tgt := 196) rfl (by omega) (by omega) (by omega) ?_
  refine T_aload_n (v := .ref 77) d_Cu_doubleTimes_7 rfl (Or.inr ⟨_, rfl⟩) ?_
  have h_174 := (e_172 77 (Ne.symm (gt tz (by simp) 77 (by decide)))).trans (h_169)
  refine T_getfield (v := .ref 94) d_Cu_doubleTimes_8 fg_Cu_36 h_174 rfl ?_
  refine T_aload_n (v := .ref to) d_Cu_doubleTimes_11 rfl (Or.inr ⟨_, rfl⟩) ?_
  have h_175 := (e_172 to m_2).trans (h_168)
  refine T_getfield (v := .ref tx) d_Cu_doubleTimes_12 fg_Cu_67 h_175 rfl ?_
  refine T_iconst (v := nI 1) d_Cu_doubleTimes_15 (by decide) ?_
  have p_176 := (RV.kp ((RV.kp (v_160) (Ex.kp e_166) (by simp only [List.mem_cons, List.not_mem_nil, or_false]; exact n_0_1))) (Ex.kp e_172) (by simp only [List.mem_cons, List.not_mem_nil, or_false]; exact n_0_2))
  have p_178 := (RV.kp ((RV.kp ((RV.kp ((RV.kp ((RV.kp (p_150) (Ex.kp e_151) (by decide))) (Ex.kp e_155) (by decide))) (Ex.kp e_160) (by simp only [List.mem_cons, List.not_mem_nil, or_false]; exact (Ne.symm (gt tx (by simp) 94 (by decide)))))) (Ex.kp e_166) (by simp only [List.mem_cons, List.not_mem_nil, or_false]; exact (Ne.symm (gt ty (by simp) 94 (by decide)))))) (Ex.kp e_172) (by simp only [List.mem_cons, List.not_mem_nil, or_false]; exact (Ne.symm (gt tz (by simp) 94 (by decide)))))
  refine T_vsq1 d_Cu_doubleTimes_16 (jw_Fi_square.jo (by decide)) lm_Cu_89 (Nat.le_of_ble_eq_true rfl) (by decide) (by decide) (by decide) (Rv.rq p_178) p_176 (by decide) (fun M_177 v_177 e_177 => ?_)
  obtain ⟨x_178, hx_178⟩ : ∃ z : Int, z = (x_161 * x_161) := ⟨_, rfl⟩
  rw [← hx_178] at v_177
  refine T_aload_n (v := .ref 77) d_Cu_doubleTimes_19 rfl (Or.inr ⟨_, rfl⟩) ?_
  have h_179 := (e_177 77 (by decide)).trans (h_174)
  refine T_getfield (v := .ref 95) d_Cu_doubleTimes_20 fg_Cu_40 h_179 rfl ?_
  refine T_aload_n (v := .ref to) d_Cu_doubleTimes_23 rfl (Or.inr ⟨_, rfl⟩) ?_
  have h_180 := (e_177 to (gt to (by simp) 94 (by decide))).trans (h_175)
  refine T_getfield (v := .ref ty) d_Cu_doubleTimes_24 fg_Cu_64 h_180 rfl ?_
  refine T_iconst (v := nI 1) d_Cu_doubleTimes_27 (by decide) ?_
  have p_181 := (RV.kp ((RV.kp (v_166) (Ex.kp e_172) (by simp only [List.mem_cons, List.not_mem_nil, or_false]; exact n_1_2))) (Ex.kp e_177) (by simp only [List.mem_cons, List.not_mem_nil, or_false]; exact (gt ty (by simp) 94 (by decide))))
  have p_183 := (RV.kp ((RV.kp ((RV.kp ((RV.kp ((RV.kp ((RV.kp (p_149) (Ex.kp e_151) (by decide))) (Ex.kp e_155) (by decide))) (Ex.kp e_160) (by simp only [List.mem_cons, List.not_mem_nil, or_false]; exact (Ne.symm (gt tx (by simp) 95 (by decide)))))) (Ex.kp e_166) (by simp only [List.mem_cons, List.not_mem_nil, or_false]; exact (Ne.symm (gt ty (by simp) 95 (by decide)))))) (Ex.kp e_172) (by simp only [List.mem_cons, List.not_mem_nil, or_false]; exact (Ne.symm (gt tz (by simp) 95 (by decide)))))) (Ex.kp e_177) (by decide))
  refine T_vsq1 d_Cu_doubleTimes_28 (jw_Fi_square.jo (by decide)) lm_Cu_89 (Nat.le_of_ble_eq_true rfl) (by decide) (by decide) (by decide) (Rv.rq p_183) p_181 (by decide) (fun M_182 v_182 e_182 => ?_)
  obtain ⟨x_183, hx_183⟩ : ∃ z : Int, z = (x_167 * x_167) := ⟨_, rfl⟩
  rw [← hx_183] at v_182
  refine T_aload_n (v := .ref 77) d_Cu_doubleTimes_31 rfl (Or.inr ⟨_, rfl⟩) ?_
  have h_184 := (e_182 77 (by decide)).trans (h_179)
  refine T_getfield (v := .ref 96) d_Cu_doubleTimes_32 fg_Cu_43 h_184 rfl ?_
  refine T_aload_n (v := .ref to) d_Cu_doubleTimes_35 rfl (Or.inr ⟨_, rfl⟩) ?_
  have h_185 := (e_182 to (gt to (by simp) 95 (by decide))).trans (h_180)
  refine T_getfield (v := .ref tz) d_Cu_doubleTimes_36 fg_Cu_86 h_185 rfl ?_
  refine T_iconst (v := nI 1) d_Cu_doubleTimes_39 (by decide) ?_
  have p_186 := (RV.kp ((RV.kp (v_172) (Ex.kp e_177) (by simp only [List.mem_cons, List.not_mem_nil, or_false]; exact (gt tz (by simp) 94 (by decide))))) (Ex.kp e_182) (by simp only [List.mem_cons, List.not_mem_nil, or_false]; exact (gt tz (by simp) 95 (by decide))))
  have p_188 := (RV.kp ((RV.kp ((RV.kp ((RV.kp ((RV.kp ((RV.kp (p_154) (Ex.kp e_155) (by decide))) (Ex.kp e_160) (by simp only [List.mem_cons, List.not_mem_nil, or_false]; exact (Ne.symm (gt tx (by simp) 96 (by decide)))))) (Ex.kp e_166) (by simp only [List.mem_cons, List.not_mem_nil, or_false]; exact (Ne.symm (gt ty (by simp) 96 (by decide)))))) (Ex.kp e_172) (by simp only [List.mem_cons, List.not_mem_nil, or_false]; exact (Ne.symm (gt tz (by simp) 96 (by decide)))))) (Ex.kp e_177) (by decide))) (Ex.kp e_182) (by decide))
  refine T_vsq1 d_Cu_doubleTimes_40 (jw_Fi_square.jo (by decide)) lm_Cu_89 (Nat.le_of_ble_eq_true rfl) (by decide) (by decide) (by decide) (Rv.rq p_188) p_186 (by decide) (fun M_187 v_187 e_187 => ?_)
  obtain ⟨x_188, hx_188⟩ : ∃ z : Int, z = (x_173 * x_173) := ⟨_, rfl⟩
  rw [← hx_188] at v_187
  refine T_aload_n (v := .ref 77) d_Cu_doubleTimes_43 rfl (Or.inr ⟨_, rfl⟩) ?_
  have h_189 := (e_187 77 (by decide)).trans (h_184)
  refine T_getfield (v := .ref 96) d_Cu_doubleTimes_44 fg_Cu_43 h_189 rfl ?_
  refine T_aload_n (v := .ref 77) d_Cu_doubleTimes_47 rfl (Or.inr ⟨_, rfl⟩) ?_
  refine T_getfield (v := .ref 96) d_Cu_doubleTimes_48 fg_Cu_43 h_189 rfl ?_
  refine T_aload_n (v := .ref 77) d_Cu_doubleTimes_51 rfl (Or.inr ⟨_, rfl⟩) ?_
  refine T_getfield (v := .ref 96) d_Cu_doubleTimes_52 fg_Cu_43 h_189 rfl ?_
  refine T_vadd d_Cu_doubleTimes_55 (jw_Fi_add.jo (by decide)) lm_Cu_77 (Nat.le_of_ble_eq_true rfl) (by decide) (by decide) (by decide) (Rv.rq v_187) v_187 v_187 (by decide) (fun M_190 v_190 e_190 => ?_)
  obtain ⟨x_190, hx_190⟩ : ∃ z : Int, z = (x_188 + x_188) := ⟨_, rfl⟩
  rw [← hx_190] at v_190
  refine T_aload_n (v := .ref 77) d_Cu_doubleTimes_58 rfl (Or.inr ⟨_, rfl⟩) ?_
  have h_191 := (e_190 77 (by decide)).trans (h_189)
  refine T_getfield (v := .ref 97) d_Cu_doubleTimes_59 fg_Cu_46 h_191 rfl ?_
  refine T_aload_n (v := .ref to) d_Cu_doubleTimes_62 rfl (Or.inr ⟨_, rfl⟩) ?_
  have h_192 := (e_190 to (gt to (by simp) 96 (by decide))).trans ((e_187 to (gt to (by simp) 96 (by decide))).trans (h_185))
  refine T_getfield (v := .ref tx) d_Cu_doubleTimes_63 fg_Cu_67 h_192 rfl ?_
  refine T_aload_n (v := .ref to) d_Cu_doubleTimes_66 rfl (Or.inr ⟨_, rfl⟩) ?_
  refine T_getfield (v := .ref ty) d_Cu_doubleTimes_67 fg_Cu_64 h_192 rfl ?_
  have p_193 := (RV.kp ((RV.kp ((RV.kp ((RV.kp (p_176) (Ex.kp e_177) (by simp only [List.mem_cons, List.not_mem_nil, or_false]; exact (gt tx (by simp) 94 (by decide))))) (Ex.kp e_182) (by simp only [List.mem_cons, List.not_mem_nil, or_false]; exact (gt tx (by simp) 95 (by decide))))) (Ex.kp e_187) (by simp only [List.mem_cons, List.not_mem_nil, or_false]; exact (gt tx (by simp) 96 (by decide))))) (Ex.kp e_190) (by simp only [List.mem_cons, List.not_mem_nil, or_false]; exact (gt tx (by simp) 96 (by decide))))
  have p_194 := (RV.kp ((RV.kp ((RV.kp (p_181) (Ex.kp e_182) (by simp only [List.mem_cons, List.not_mem_nil, or_false]; exact (gt ty (by simp) 95 (by decide))))) (Ex.kp e_187) (by simp only [List.mem_cons, List.not_mem_nil, or_false]; exact (gt ty (by simp) 96 (by decide))))) (Ex.kp e_190) (by simp only [List.mem_cons, List.not_mem_nil, or_false]; exact (gt ty (by simp) 96 (by decide))))
  have p_196 := (RV.kp ((RV.kp ((RV.kp ((RV.kp ((RV.kp ((RV.kp ((RV.kp (p_159) (Ex.kp e_160) (by simp only [List.mem_cons, List.not_mem_nil, or_false]; exact (Ne.symm (gt tx (by simp) 97 (by decide)))))) (Ex.kp e_166) (by simp only [List.mem_cons, List.not_mem_nil, or_false]; exact (Ne.symm (gt ty (by simp) 97 (by decide)))))) (Ex.kp e_172) (by simp only [List.mem_cons, List.not_mem_nil, or_false]; exact (Ne.symm (gt tz (by simp) 97 (by decide)))))) (Ex.kp e_177) (by decide))) (Ex.kp e_182) (by decide))) (Ex.kp e_187) (by decide))) (Ex.kp e_190) (by decide))
  refine T_vadd d_Cu_doubleTimes_70 (jw_Fi_add.jo (by decide)) lm_Cu_77 (Nat.le_of_ble_eq_true rfl) (by decide) (by decide) (by decide) (Rv.rq p_196) p_193 p_194 (by decide) (fun M_195 v_195 e_195 => ?_)
  obtain ⟨x_196, hx_196⟩ : ∃ z : Int, z = (x_161 + x_167) := ⟨_, rfl⟩
  rw [← hx_196] at v_195
  refine T_aload_n (v := .ref 77) d_Cu_doubleTimes_73 rfl (Or.inr ⟨_, rfl⟩) ?_
  have h_197 := (e_195 77 (by decide)).trans (h_191)
  refine T_getfield (v := .ref 97) d_Cu_doubleTimes_74 fg_Cu_46 h_197 rfl ?_
  refine T_aload_n (v := .ref 77) d_Cu_doubleTimes_77 rfl (Or.inr ⟨_, rfl⟩) ?_
  refine T_getfield (v := .ref 97) d_Cu_doubleTimes_78 fg_Cu_46 h_197 rfl ?_
  refine T_iconst (v := nI 1) d_Cu_doubleTimes_81 (by decide) ?_
  refine T_vsq1 d_Cu_doubleTimes_82 (jw_Fi_square.jo (by decide)) lm_Cu_89 (Nat.le_of_ble_eq_true rfl) (by decide) (by decide) (by decide) (Rv.rq v_195) v_195 (by decide) (fun M_198 v_198 e_198 => ?_)
  obtain ⟨x_198, hx_198⟩ : ∃ z : Int, z = (x_196 * x_196) := ⟨_, rfl⟩
  rw [← hx_198] at v_198
  refine T_aload_n (v := .ref 77) d_Cu_doubleTimes_85 rfl (Or.inr ⟨_, rfl⟩) ?_
  have h_199 := (e_198 77 (by decide)).trans (h_197)
  refine T_getfield (v := .ref 100) d_Cu_doubleTimes_86 fg_Cu_55 h_199 rfl ?_
  refine T_aload_n (v := .ref 77) d_Cu_doubleTimes_89 rfl (Or.inr ⟨_, rfl⟩) ?_
  refine T_getfield (v := .ref 94) d_Cu_doubleTimes_90 fg_Cu_36 h_199 rfl ?_
  refine T_aload_n (v := .ref 77) d_Cu_doubleTimes_93 rfl (Or.inr ⟨_, rfl⟩) ?_
  refine T_getfield (v := .ref 95) d_Cu_doubleTimes_94 fg_Cu_40 h_199 rfl ?_
  have p_200 := (RV.kp ((RV.kp ((RV.kp ((RV.kp ((RV.kp (v_177) (Ex.kp e_182) (by decide))) (Ex.kp e_187) (by decide))) (Ex.kp e_190) (by decide))) (Ex.kp e_195) (by decide))) (Ex.kp e_198) (by decide))
  have p_201 := (RV.kp ((RV.kp ((RV.kp ((RV.kp (v_182) (Ex.kp e_187) (by decide))) (Ex.kp e_190) (by decide))) (Ex.kp e_195) (by decide))) (Ex.kp e_198) (by decide))
  have p_203 := (RV.kp ((RV.kp ((RV.kp ((RV.kp ((RV.kp ((RV.kp ((RV.kp ((RV.kp (p_165) (Ex.kp e_166) (by simp only [List.mem_cons, List.not_mem_nil, or_false]; exact (Ne.symm (gt ty (by simp) 100 (by decide)))))) (Ex.kp e_172) (by simp only [List.mem_cons, List.not_mem_nil, or_false]; exact (Ne.symm (gt tz (by simp) 100 (by decide)))))) (Ex.kp e_177) (by decide))) (Ex.kp e_182) (by decide))) (Ex.kp e_187) (by decide))) (Ex.kp e_190) (by decide))) (Ex.kp e_195) (by decide))) (Ex.kp e_198) (by decide))
  refine T_vadd d_Cu_doubleTimes_97 (jw_Fi_add.jo (by decide)) lm_Cu_77 (Nat.le_of_ble_eq_true rfl) (by decide) (by decide) (by decide) (Rv.rq p_203) p_200 p_201 (by decide) (fun M_202 v_202 e_202 => ?_)
  obtain ⟨x_203, hx_203⟩ : ∃ z : Int, z = (x_178 + x_183) := ⟨_, rfl⟩
  rw [← hx_203] at v_202
  refine T_aload_n (v := .ref 77) d_Cu_doubleTimes_100 rfl (Or.inr ⟨_, rfl⟩) ?_
  have h_204 := (e_202 77 (by decide)).trans (h_199)
  refine T_getfield (v := .ref 97) d_Cu_doubleTimes_101 fg_Cu_46 h_204 rfl ?_
  refine T_aload_n (v := .ref 77) d_Cu_doubleTimes_104 rfl (Or.inr ⟨_, rfl⟩) ?_
  refine T_getfield (v := .ref 97) d_Cu_doubleTimes_105 fg_Cu_46 h_204 rfl ?_
  refine T_aload_n (v := .ref 77) d_Cu_doubleTimes_108 rfl (Or.inr ⟨_, rfl⟩) ?_
  refine T_getfield (v := .ref 100) d_Cu_doubleTimes_109 fg_Cu_55 h_204 rfl ?_
  have p_205 := (RV.kp (v_198) (Ex.kp e_202) (by decide))
  refine T_vsub d_Cu_doubleTimes_112 (jw_Fi_subtract.jo (by decide)) lm_Cu_70 (Nat.le_of_ble_eq_true rfl) (by decide) (by decide) (by decide) (Rv.rq p_205) p_205 v_202 (by decide) (fun M_206 v_206 e_206 => ?_)
  obtain ⟨x_206, hx_206⟩ : ∃ z : Int, z = (x_198 - x_203) := ⟨_, rfl⟩
  rw [← hx_206] at v_206
  refine T_aload_n (v := .ref 77) d_Cu_doubleTimes_115 rfl (Or.inr ⟨_, rfl⟩) ?_
  have h_207 := (e_206 77 (by decide)).trans (h_204)
  refine T_getfield (v := .ref 99) d_Cu_doubleTimes_116 fg_Cu_52 h_207 rfl ?_
  refine T_aload_n (v := .ref 77) d_Cu_doubleTimes_119 rfl (Or.inr ⟨_, rfl⟩) ?_
  refine T_getfield (v := .ref 95) d_Cu_doubleTimes_120 fg_Cu_40 h_207 rfl ?_
  refine T_aload_n (v := .ref 77) d_Cu_doubleTimes_123 rfl (Or.inr ⟨_, rfl⟩) ?_
  refine T_getfield (v := .ref 94) d_Cu_doubleTimes_124 fg_Cu_36 h_207 rfl ?_
  have p_208 := (RV.kp ((RV.kp (p_201) (Ex.kp e_202) (by decide))) (Ex.kp e_206) (by decide))
  have p_209 := (RV.kp ((RV.kp (p_200) (Ex.kp e_202) (by decide))) (Ex.kp e_206) (by decide))
  have p_211 := (RV.kp ((RV.kp ((RV.kp ((RV.kp ((RV.kp ((RV.kp ((RV.kp ((RV.kp ((RV.kp (p_171) (Ex.kp e_172) (by simp only [List.mem_cons, List.not_mem_nil, or_false]; exact (Ne.symm (gt tz (by simp) 99 (by decide)))))) (Ex.kp e_177) (by decide))) (Ex.kp e_182) (by decide))) (Ex.kp e_187) (by decide))) (Ex.kp e_190) (by decide))) (Ex.kp e_195) (by decide))) (Ex.kp e_198) (by decide))) (Ex.kp e_202) (by decide))) (Ex.kp e_206) (by decide))
  refine T_vsub d_Cu_doubleTimes_127 (jw_Fi_subtract.jo (by decide)) lm_Cu_70 (Nat.le_of_ble_eq_true rfl) (by decide) (by decide) (by decide) (Rv.rq p_211) p_208 p_209 (by decide) (fun M_210 v_210 e_210 => ?_)
  obtain ⟨x_211, hx_211⟩ : ∃ z : Int, z = (x_183 - x_178) := ⟨_, rfl⟩
  rw [← hx_211] at v_210
  refine T_aload_n (v := .ref 77) d_Cu_doubleTimes_130 rfl (Or.inr ⟨_, rfl⟩) ?_
  have h_212 := (e_210 77 (by decide)).trans (h_207)
  refine T_getfield (v := .ref 98) d_Cu_doubleTimes_131 fg_Cu_49 h_212 rfl ?_
  refine T_aload_n (v := .ref 77) d_Cu_doubleTimes_134 rfl (Or.inr ⟨_, rfl⟩) ?_
  refine T_getfield (v := .ref 96) d_Cu_doubleTimes_135 fg_Cu_43 h_212 rfl ?_
  refine T_aload_n (v := .ref 77) d_Cu_doubleTimes_138 rfl (Or.inr ⟨_, rfl⟩) ?_
  refine T_getfield (v := .ref 99) d_Cu_doubleTimes_139 fg_Cu_52 h_212 rfl ?_
  have p_213 := (RV.kp ((RV.kp ((RV.kp ((RV.kp ((RV.kp (v_190) (Ex.kp e_195) (by decide))) (Ex.kp e_198) (by decide))) (Ex.kp e_202) (by decide))) (Ex.kp e_206) (by decide))) (Ex.kp e_210) (by decide))
  have p_215 := (RV.kp ((RV.kp ((RV.kp ((RV.kp ((RV.kp ((RV.kp ((RV.kp ((RV.kp ((RV.kp ((RV.kp (p_170) (Ex.kp e_172) (by simp only [List.mem_cons, List.not_mem_nil, or_false]; exact (Ne.symm (gt tz (by simp) 98 (by decide)))))) (Ex.kp e_177) (by decide))) (Ex.kp e_182) (by decide))) (Ex.kp e_187) (by decide))) (Ex.kp e_190) (by decide))) (Ex.kp e_195) (by decide))) (Ex.kp e_198) (by decide))) (Ex.kp e_202) (by decide))) (Ex.kp e_206) (by decide))) (Ex.kp e_210) (by decide))
  refine T_vsub d_Cu_doubleTimes_142 (jw_Fi_subtract.jo (by decide)) lm_Cu_70 (Nat.le_of_ble_eq_true rfl) (by decide) (by decide) (by decide) (Rv.rq p_215) p_213 v_210 (by decide) (fun M_214 v_214 e_214 => ?_)
  obtain ⟨x_215, hx_215⟩ : ∃ z : Int, z = (x_190 - x_211) := ⟨_, rfl⟩
  rw [← hx_215] at v_214
  refine T_aload_n (v := .ref to) d_Cu_doubleTimes_145 rfl (Or.inr ⟨_, rfl⟩) ?_
  have h_216 := (e_214 to (gt to (by simp) 98 (by decide))).trans ((e_210 to (gt to (by simp) 99 (by decide))).trans ((e_206 to (gt to (by simp) 97 (by decide))).trans ((e_202 to (gt to (by simp) 100 (by decide))).trans ((e_198 to (gt to (by simp) 97 (by decide))).trans ((e_195 to (gt to (by simp) 97 (by decide))).trans (h_192))))))
  refine T_getfield (v := .ref tx) d_Cu_doubleTimes_146 fg_Cu_67 h_216 rfl ?_
  refine T_aload_n (v := .ref 77) d_Cu_doubleTimes_149 rfl (Or.inr ⟨_, rfl⟩) ?_
  have h_217 := (e_214 77 (by decide)).trans (h_212)
  refine T_getfield (v := .ref 97) d_Cu_doubleTimes_150 fg_Cu_46 h_217 rfl ?_
  refine T_aload_n (v := .ref 77) d_Cu_doubleTimes_153 rfl (Or.inr ⟨_, rfl⟩) ?_
  refine T_getfield (v := .ref 98) d_Cu_doubleTimes_154 fg_Cu_49 h_217 rfl ?_
  have p_218 := (RV.kp ((RV.kp (v_206) (Ex.kp e_210) (by decide))) (Ex.kp e_214) (by decide))
  have p_220 := (RV.kp ((RV.kp ((RV.kp ((RV.kp ((RV.kp ((RV.kp (p_193) (Ex.kp e_195) (by simp only [List.mem_cons, List.not_mem_nil, or_false]; exact (gt tx (by simp) 97 (by decide))))) (Ex.kp e_198) (by simp only [List.mem_cons, List.not_mem_nil, or_false]; exact (gt tx (by simp) 97 (by decide))))) (Ex.kp e_202) (by simp only [List.mem_cons, List.not_mem_nil, or_false]; exact (gt tx (by simp) 100 (by decide))))) (Ex.kp e_206) (by simp only [List.mem_cons, List.not_mem_nil, or_false]; exact (gt tx (by simp) 97 (by decide))))) (Ex.kp e_210) (by simp only [List.mem_cons, List.not_mem_nil, or_false]; exact (gt tx (by simp) 99 (by decide))))) (Ex.kp e_214) (by simp only [List.mem_cons, List.not_mem_nil, or_false]; exact (gt tx (by simp) 98 (by decide))))
  refine T_vmul d_Cu_doubleTimes_157 (jw_Fi_multiply.jo (by decide)) lm_Cu_74 (Nat.le_of_ble_eq_true rfl) (by decide) (by decide) k_tx (Rv.rq p_220) p_218 v_214 (by decide) (fun M_219 v_219 e_219 => ?_)
  obtain ⟨x_220, hx_220⟩ : ∃ z : Int, z = (x_206 * x_215) := ⟨_, rfl⟩
  rw [← hx_220] at v_219
  refine T_aload_n (v := .ref to) d_Cu_doubleTimes_160 rfl (Or.inr ⟨_, rfl⟩) ?_
  have h_221 := (e_219 to m_0).trans (h_216)
  refine T_getfield (v := .ref ty) d_Cu_doubleTimes_161 fg_Cu_64 h_221 rfl ?_
  refine T_aload_n (v := .ref 77) d_Cu_doubleTimes_164 rfl (Or.inr ⟨_, rfl⟩) ?_
  have h_222 := (e_219 77 (Ne.symm (gt tx (by simp) 77 (by decide)))).trans (h_217)
  refine T_getfield (v := .ref 99) d_Cu_doubleTimes_165 fg_Cu_52 h_222 rfl ?_
  refine T_aload_n (v := .ref 77) d_Cu_doubleTimes_168 rfl (Or.inr ⟨_, rfl⟩) ?_
  refine T_getfield (v := .ref 100) d_Cu_doubleTimes_169 fg_Cu_55 h_222 rfl ?_
  have p_223 := (RV.kp ((RV.kp (v_210) (Ex.kp e_214) (by decide))) (Ex.kp e_219) (by simp only [List.mem_cons, List.not_mem_nil, or_false]; exact (Ne.symm (gt tx (by simp) 99 (by decide)))))
  have p_224 := (RV.kp ((RV.kp ((RV.kp ((RV.kp (v_202) (Ex.kp e_206) (by decide))) (Ex.kp e_210) (by decide))) (Ex.kp e_214) (by decide))) (Ex.kp e_219) (by simp only [List.mem_cons, List.not_mem_nil, or_false]; exact (Ne.symm (gt tx (by simp) 100 (by decide)))))
  have p_226 := (RV.kp ((RV.kp ((RV.kp ((RV.kp ((RV.kp ((RV.kp ((RV.kp (p_194) (Ex.kp e_195) (by simp only [List.mem_cons, List.not_mem_nil, or_false]; exact (gt ty (by simp) 97 (by decide))))) (Ex.kp e_198) (by simp only [List.mem_cons, List.not_mem_nil, or_false]; exact (gt ty (by simp) 97 (by decide))))) (Ex.kp e_202) (by simp only [List.mem_cons, List.not_mem_nil, or_false]; exact (gt ty (by simp) 100 (by decide))))) (Ex.kp e_206) (by simp only [List.mem_cons, List.not_mem_nil, or_false]; exact (gt ty (by simp) 97 (by decide))))) (Ex.kp e_210) (by simp only [List.mem_cons, List.not_mem_nil, or_false]; exact (gt ty (by simp) 99 (by decide))))) (Ex.kp e_214) (by simp only [List.mem_cons, List.not_mem_nil, or_false]; exact (gt ty (by simp) 98 (by decide))))) (Ex.kp e_219) (by simp only [List.mem_cons, List.not_mem_nil, or_false]; exact (Ne.symm n_0_1)))
  refine T_vmul d_Cu_doubleTimes_172 (jw_Fi_multiply.jo (by decide)) lm_Cu_74 (Nat.le_of_ble_eq_true rfl) (by decide) (by decide) k_ty (Rv.rq p_226) p_223 p_224 (by decide) (fun M_225 v_225 e_225 => ?_)
  obtain ⟨x_226, hx_226⟩ : ∃ z : Int, z = (x_211 * x_203) := ⟨_, rfl⟩
  rw [← hx_226] at v_225
  refine T_aload_n (v := .ref to) d_Cu_doubleTimes_175 rfl (Or.inr ⟨_, rfl⟩) ?_
  have h_227 := (e_225 to m_1).trans (h_221)
  refine T_getfield (v := .ref tz) d_Cu_doubleTimes_176 fg_Cu_86 h_227 rfl ?_
  refine T_aload_n (v := .ref 77) d_Cu_doubleTimes_179 rfl (Or.inr ⟨_, rfl⟩) ?_
  have h_228 := (e_225 77 (Ne.symm (gt ty (by simp) 77 (by decide)))).trans (h_222)
  refine T_getfield (v := .ref 98) d_Cu_doubleTimes_180 fg_Cu_49 h_228 rfl ?_
  refine T_aload_n (v := .ref 77) d_Cu_doubleTimes_183 rfl (Or.inr ⟨_, rfl⟩) ?_
  refine T_getfield (v := .ref 99) d_Cu_doubleTimes_184 fg_Cu_52 h_228 rfl ?_
  have p_229 := (RV.kp ((RV.kp (v_214) (Ex.kp e_219) (by simp only [List.mem_cons, List.not_mem_nil, or_false]; exact (Ne.symm (gt tx (by simp) 98 (by decide)))))) (Ex.kp e_225) (by simp only [List.mem_cons, List.not_mem_nil, or_false]; exact (Ne.symm (gt ty (by simp) 98 (by decide)))))
  have p_230 := (RV.kp (p_223) (Ex.kp e_225) (by simp only [List.mem_cons, List.not_mem_nil, or_false]; exact (Ne.symm (gt ty (by simp) 99 (by decide)))))
  have p_232 := (RV.kp ((RV.kp ((RV.kp ((RV.kp ((RV.kp ((RV.kp ((RV.kp ((RV.kp ((RV.kp ((RV.kp (p_186) (Ex.kp e_187) (by simp only [List.mem_cons, List.not_mem_nil, or_false]; exact (gt tz (by simp) 96 (by decide))))) (Ex.kp e_190) (by simp only [List.mem_cons, List.not_mem_nil, or_false]; exact (gt tz (by simp) 96 (by decide))))) (Ex.kp e_195) (by simp only [List.mem_cons, List.not_mem_nil, or_false]; exact (gt tz (by simp) 97 (by decide))))) (Ex.kp e_198) (by simp only [List.mem_cons, List.not_mem_nil, or_false]; exact (gt tz (by simp) 97 (by decide))))) (Ex.kp e_202) (by simp only [List.mem_cons, List.not_mem_nil, or_false]; exact (gt tz (by simp) 100 (by decide))))) (Ex.kp e_206) (by simp only [List.mem_cons, List.not_mem_nil, or_false]; exact (gt tz (by simp) 97 (by decide))))) (Ex.kp e_210) (by simp only [List.mem_cons, List.not_mem_nil, or_false]; exact (gt tz (by simp) 99 (by decide))))) (Ex.kp e_214) (by simp only [List.mem_cons, List.not_mem_nil, or_false]; exact (gt tz (by simp) 98 (by decide))))) (Ex.kp e_219) (by simp only [List.mem_cons, List.not_mem_nil, or_false]; exact (Ne.symm n_0_2)))) (Ex.kp e_225) (by simp only [List.mem_cons, List.not_mem_nil, or_false]; exact (Ne.symm n_1_2)))
  refine T_vmul d_Cu_doubleTimes_187 (jw_Fi_multiply.jo (by decide)) lm_Cu_74 (Nat.le_of_ble_eq_true rfl) (by decide) (by decide) k_tz (Rv.rq p_232) p_229 p_230 (by decide) (fun M_231 v_231 e_231 => ?_)
  obtain ⟨x_232, hx_232⟩ : ∃ z : Int, z = (x_215 * x_211) := ⟨_, rfl⟩
  rw [← hx_232] at v_231
  have K4 := pj_dblC (X := ph x_161) (Y := ph x_167) (Z := ph x_173) (cvF.onP (cvF.onP (cvF.onP oP oP) (cvF.onP oP oP)) (cvF.onP (cvF.onP oP oP) (cvF.onP oP oP))) K3.1 K3.2.1 K3.2.2.1 (a := ph x_178) (b := ph x_183) (c := ph x_190) (e0 := ph x_198) (e := ph x_206) (g := ph x_211) (f := ph x_215) (h := ph x_203) (x := ph x_220) (y := ph x_226) (z := ph x_232) (by rw [hx_178, ph_mul]) (by rw [hx_183, ph_mul]) (by rw [hx_190, ph_add, hx_188, ph_mul]) (by rw [hx_198, ph_mul, hx_196, ph_add]) (by rw [hx_203, ph_add]) (by rw [hx_206, ph_sub]) (by rw [hx_211, ph_sub]) (by rw [hx_215, ph_sub]) (by rw [hx_220, ph_mul]) (by rw [hx_226, ph_mul]) (by rw [hx_232, ph_mul])
  refine N_iinc (k := 3) (m := 1) (c := 4) (L' := [(3, .int (nI 4)), (0, .ref 77), (1, .ref to), (2, .int (nI 4))]) d_Cu_doubleTimes_190 (by decide) rfl (by decide) rfl rfl ?_
  refine T_goto (tgt := 2) d_Cu_doubleTimes_193 rfl ?_
  refine T_iload_n d_Cu_doubleTimes_2 rfl ?_
  refine T_iload_n d_Cu_doubleTimes_3 rfl ?_
  refine N_icmp_ge_t (a := 4) (b := 4) d_Cu_doubleTimes_4 (tgt := 196) rfl (by omega) (by omega) (by omega) ?_
  refine T_aload_n (v := .ref to) d_Cu_doubleTimes_196 rfl (Or.inr ⟨_, rfl⟩) ?_
  have h_233 := (e_231 to m_2).trans (h_227)
  refine T_getfield (v := .ref tt) d_Cu_doubleTimes_197 fg_Cu_80 h_233 rfl ?_
  refine T_aload_n (v := .ref 77) d_Cu_doubleTimes_200 rfl (Or.inr ⟨_, rfl⟩) ?_
  have h_234 := (e_231 77 (Ne.symm (gt tz (by simp) 77 (by decide)))).trans (h_228)
  refine T_getfield (v := .ref 97) d_Cu_doubleTimes_201 fg_Cu_46 h_234 rfl ?_
  refine T_aload_n (v := .ref 77) d_Cu_doubleTimes_204 rfl (Or.inr ⟨_, rfl⟩) ?_
  refine T_getfield (v := .ref 100) d_Cu_doubleTimes_205 fg_Cu_55 h_234 rfl ?_
  have p_235 := (RV.kp ((RV.kp ((RV.kp (p_218) (Ex.kp e_219) (by simp only [List.mem_cons, List.not_mem_nil, or_false]; exact (Ne.symm (gt tx (by simp) 97 (by decide)))))) (Ex.kp e_225) (by simp only [List.mem_cons, List.not_mem_nil, or_false]; exact (Ne.symm (gt ty (by simp) 97 (by decide)))))) (Ex.kp e_231) (by simp only [List.mem_cons, List.not_mem_nil, or_false]; exact (Ne.symm (gt tz (by simp) 97 (by decide)))))
  have p_236 := (RV.kp ((RV.kp (p_224) (Ex.kp e_225) (by simp only [List.mem_cons, List.not_mem_nil, or_false]; exact (Ne.symm (gt ty (by simp) 100 (by decide)))))) (Ex.kp e_231) (by simp only [List.mem_cons, List.not_mem_nil, or_false]; exact (Ne.symm (gt tz (by simp) 100 (by decide)))))
  have p_238 := (RV.kp ((RV.kp ((RV.kp ((RV.kp ((RV.kp ((RV.kp ((RV.kp ((RV.kp ((RV.kp ((RV.kp ((RV.kp ((RV.kp ((RV.kp ((RV.kp ((RV.kp ((RV.kp ((RV.kp ((RV.kp ((RV.kp ((RV.kp ((RV.kp ((RV.kp ((RV.kp ((RV.kp ((RV.kp ((RV.kp ((RV.kp ((RV.kp ((RV.kp ((RV.kp ((RV.kp ((RV.kp ((RV.kp ((RV.kp ((RV.kp ((RV.kp ((RV.kp ((RV.kp ((RV.kp ((RV.kp ((RV.kp ((RV.kp ((RV.kp ((RV.kp ((RV.kp ((RV.kp ((RV.kp ((RV.kp ((RV.kp ((RV.kp ((RV.kp ((RV.kp (t4) (Ex.kp e_1) (by simp only [List.mem_cons, List.not_mem_nil, or_false]; exact (gt tt (by simp) 94 (by decide))))) (Ex.kp e_5) (by simp only [List.mem_cons, List.not_mem_nil, or_false]; exact (gt tt (by simp) 95 (by decide))))) (Ex.kp e_10) (by simp only [List.mem_cons, List.not_mem_nil, or_false]; exact (gt tt (by simp) 96 (by decide))))) (Ex.kp e_13) (by simp only [List.mem_cons, List.not_mem_nil, or_false]; exact (gt tt (by simp) 96 (by decide))))) (Ex.kp e_18) (by simp only [List.mem_cons, List.not_mem_nil, or_false]; exact (gt tt (by simp) 97 (by decide))))) (Ex.kp e_21) (by simp only [List.mem_cons, List.not_mem_nil, or_false]; exact (gt tt (by simp) 97 (by decide))))) (Ex.kp e_25) (by simp only [List.mem_cons, List.not_mem_nil, or_false]; exact (gt tt (by simp) 100 (by decide))))) (Ex.kp e_29) (by simp only [List.mem_cons, List.not_mem_nil, or_false]; exact (gt tt (by simp) 97 (by decide))))) (Ex.kp e_33) (by simp only [List.mem_cons, List.not_mem_nil, or_false]; exact (gt tt (by simp) 99 (by decide))))) (Ex.kp e_37) (by simp only [List.mem_cons, List.not_mem_nil, or_false]; exact (gt tt (by simp) 98 (by decide))))) (Ex.kp e_42) (by simp only [List.mem_cons, List.not_mem_nil, or_false]; exact (Ne.symm n_0_3)))) (Ex.kp e_48) (by simp only [List.mem_cons, List.not_mem_nil, or_false]; exact (Ne.symm n_1_3)))) (Ex.kp e_54) (by simp only [List.mem_cons, List.not_mem_nil, or_false]; exact (Ne.symm n_2_3)))) (Ex.kp e_59) (by simp only [List.mem_cons, List.not_mem_nil, or_false]; exact (gt tt (by simp) 94 (by decide))))) (Ex.kp e_64) (by simp only [List.mem_cons, List.not_mem_nil, or_false]; exact (gt tt (by simp) 95 (by decide))))) (Ex.kp e_69) (by simp only [List.mem_cons, List.not_mem_nil, or_false]; exact (gt tt (by simp) 96 (by decide))))) (Ex.kp e_72) (by simp only [List.mem_cons, List.not_mem_nil, or_false]; exact (gt tt (by simp) 96 (by decide))))) (Ex.kp e_77) (by simp only [List.mem_cons, List.not_mem_nil, or_false]; exact (gt tt (by simp) 97 (by decide))))) (Ex.kp e_80) (by simp only [List.mem_cons, List.not_mem_nil, or_false]; exact (gt tt (by simp) 97 (by decide))))) (Ex.kp e_84) (by simp only [List.mem_cons, List.not_mem_nil, or_false]; exact (gt tt (by simp) 100 (by decide))))) (Ex.kp e_88) (by simp only [List.mem_cons, List.not_mem_nil, or_false]; exact (gt tt (by simp) 97 (by decide))))) (Ex.kp e_92) (by simp only [List.mem_cons, List.not_mem_nil, or_false]; exact (gt tt (by simp) 99 (by decide))))) (Ex.kp e_96) (by simp only [List.mem_cons, List.not_mem_nil, or_false]; exact (gt tt (by simp) 98 (by decide))))) (Ex.kp e_101) (by simp only [List.mem_cons, List.not_mem_nil, or_false]; exact (Ne.symm n_0_3)))) (Ex.kp e_107) (by simp only [List.mem_cons, List.not_mem_nil, or_false]; exact (Ne.symm n_1_3)))) (Ex.kp e_113) (by simp only [List.mem_cons, List.not_mem_nil, or_false]; exact (Ne.symm n_2_3)))) (Ex.kp e_118) (by simp only [List.mem_cons, List.not_mem_nil, or_false]; exact (gt tt (by simp) 94 (by decide))))) (Ex.kp e_123) (by simp only [List.mem_cons, List.not_mem_nil, or_false]; exact (gt tt (by simp) 95 (by decide))))) (Ex.kp e_128) (by simp only [List.mem_cons, List.not_mem_nil, or_false]; exact (gt tt (by simp) 96 (by decide))))) (Ex.kp e_131) (by simp only [List.mem_cons, List.not_mem_nil, or_false]; exact (gt tt (by simp) 96 (by decide))))) (Ex.kp e_136) (by simp only [List.mem_cons, List.not_mem_nil, or_false]; exact (gt tt (by simp) 97 (by decide))))) (Ex.kp e_139) (by simp only [List.mem_cons, List.not_mem_nil, or_false]; exact (gt tt (by simp) 97 (by decide))))) (Ex.kp e_143) (by simp only [List.mem_cons, List.not_mem_nil, or_false]; exact (gt tt (by simp) 100 (by decide))))) (Ex.kp e_147) (by simp only [List.mem_cons, List.not_mem_nil, or_false]; exact (gt tt (by simp) 97 (by decide))))) (Ex.kp e_151) (by simp only [List.mem_cons, List.not_mem_nil, or_false]; exact (gt tt (by simp) 99 (by decide))))) (Ex.kp e_155) (by simp only [List.mem_cons, List.not_mem_nil, or_false]; exact (gt tt (by simp) 98 (by decide))))) (Ex.kp e_160) (by simp only [List.mem_cons, List.not_mem_nil, or_false]; exact (Ne.symm n_0_3)))) (Ex.kp e_166) (by simp only [List.mem_cons, List.not_mem_nil, or_false]; exact (Ne.symm n_1_3)))) (Ex.kp e_172) (by simp only [List.mem_cons, List.not_mem_nil, or_false]; exact (Ne.symm n_2_3)))) (Ex.kp e_177) (by simp only [List.mem_cons, List.not_mem_nil, or_false]; exact (gt tt (by simp) 94 (by decide))))) (Ex.kp e_182) (by simp only [List.mem_cons, List.not_mem_nil, or_false]; exact (gt tt (by simp) 95 (by decide))))) (Ex.kp e_187) (by simp only [List.mem_cons, List.not_mem_nil, or_false]; exact (gt tt (by simp) 96 (by decide))))) (Ex.kp e_190) (by simp only [List.mem_cons, List.not_mem_nil, or_false]; exact (gt tt (by simp) 96 (by decide))))) (Ex.kp e_195) (by simp only [List.mem_cons, List.not_mem_nil, or_false]; exact (gt tt (by simp) 97 (by decide))))) (Ex.kp e_198) (by simp only [List.mem_cons, List.not_mem_nil, or_false]; exact (gt tt (by simp) 97 (by decide))))) (Ex.kp e_202) (by simp only [List.mem_cons, List.not_mem_nil, or_false]; exact (gt tt (by simp) 100 (by decide))))) (Ex.kp e_206) (by simp only [List.mem_cons, List.not_mem_nil, or_false]; exact (gt tt (by simp) 97 (by decide))))) (Ex.kp e_210) (by simp only [List.mem_cons, List.not_mem_nil, or_false]; exact (gt tt (by simp) 99 (by decide))))) (Ex.kp e_214) (by simp only [List.mem_cons, List.not_mem_nil, or_false]; exact (gt tt (by simp) 98 (by decide))))) (Ex.kp e_219) (by simp only [List.mem_cons, List.not_mem_nil, or_false]; exact (Ne.symm n_0_3)))) (Ex.kp e_225) (by simp only [List.mem_cons, List.not_mem_nil, or_false]; exact (Ne.symm n_1_3)))) (Ex.kp e_231) (by simp only [List.mem_cons, List.not_mem_nil, or_false]; exact (Ne.symm n_2_3)))
  refine T_vmul d_Cu_doubleTimes_208 (jw_Fi_multiply.jo (by decide)) lm_Cu_74 (Nat.le_of_ble_eq_true rfl) (by decide) (by decide) k_tt (Rv.rq p_238) p_235 p_236 (by decide) (fun M_237 v_237 e_237 => ?_)
  obtain ⟨x_238, hx_238⟩ : ∃ z : Int, z = (x_206 * x_203) := ⟨_, rfl⟩
  rw [← hx_238] at v_237
  rw [← ph_mul, ← hx_238] at K4
  have p_239 := (RQ.kp ((RQ.kp ((RQ.kp ((RQ.kp ((RQ.kp ((RQ.kp ((RQ.kp ((RQ.kp ((RQ.kp ((RQ.kp ((RQ.kp ((RQ.kp ((RQ.kp ((RQ.kp ((RQ.kp ((RQ.kp ((RQ.kp ((RQ.kp ((RQ.kp ((RQ.kp ((RQ.kp ((RQ.kp ((RQ.kp ((RQ.kp ((RQ.kp ((RQ.kp ((RQ.kp ((RQ.kp ((RQ.kp ((RQ.kp ((RQ.kp ((RQ.kp ((RQ.kp ((RQ.kp ((RQ.kp ((RQ.kp ((RQ.kp ((RQ.kp ((RQ.kp ((RQ.kp ((RQ.kp ((RQ.kp ((RQ.kp ((RQ.kp ((RQ.kp ((RQ.kp ((RQ.kp ((RQ.kp ((RQ.kp ((RQ.kp ((RQ.kp ((RQ.kp ((RQ.kp ((hcs.2.2 102 (by decide))) (Ex.kp e_1) (by decide))) (Ex.kp e_5) (by decide))) (Ex.kp e_10) (by decide))) (Ex.kp e_13) (by decide))) (Ex.kp e_18) (by decide))) (Ex.kp e_21) (by decide))) (Ex.kp e_25) (by decide))) (Ex.kp e_29) (by decide))) (Ex.kp e_33) (by decide))) (Ex.kp e_37) (by decide))) (Ex.kp e_42) (by simp only [List.mem_cons, List.not_mem_nil, or_false]; exact (Ne.symm (gt tx (by simp) 102 (by decide)))))) (Ex.kp e_48) (by simp only [List.mem_cons, List.not_mem_nil, or_false]; exact (Ne.symm (gt ty (by simp) 102 (by decide)))))) (Ex.kp e_54) (by simp only [List.mem_cons, List.not_mem_nil, or_false]; exact (Ne.symm (gt tz (by simp) 102 (by decide)))))) (Ex.kp e_59) (by decide))) (Ex.kp e_64) (by decide))) (Ex.kp e_69) (by decide))) (Ex.kp e_72) (by decide))) (Ex.kp e_77) (by decide))) (Ex.kp e_80) (by decide))) (Ex.kp e_84) (by decide))) (Ex.kp e_88) (by decide))) (Ex.kp e_92) (by decide))) (Ex.kp e_96) (by decide))) (Ex.kp e_101) (by simp only [List.mem_cons, List.not_mem_nil, or_false]; exact (Ne.symm (gt tx (by simp) 102 (by decide)))))) (Ex.kp e_107) (by simp only [List.mem_cons, List.not_mem_nil, or_false]; exact (Ne.symm (gt ty (by simp) 102 (by decide)))))) (Ex.kp e_113) (by simp only [List.mem_cons, List.not_mem_nil, or_false]; exact (Ne.symm (gt tz (by simp) 102 (by decide)))))) (Ex.kp e_118) (by decide))) (Ex.kp e_123) (by decide))) (Ex.kp e_128) (by decide))) (Ex.kp e_131) (by decide))) (Ex.kp e_136) (by decide))) (Ex.kp e_139) (by decide))) (Ex.kp e_143) (by decide))) (Ex.kp e_147) (by decide))) (Ex.kp e_151) (by decide))) (Ex.kp e_155) (by decide))) (Ex.kp e_160) (by simp only [List.mem_cons, List.not_mem_nil, or_false]; exact (Ne.symm (gt tx (by simp) 102 (by decide)))))) (Ex.kp e_166) (by simp only [List.mem_cons, List.not_mem_nil, or_false]; exact (Ne.symm (gt ty (by simp) 102 (by decide)))))) (Ex.kp e_172) (by simp only [List.mem_cons, List.not_mem_nil, or_false]; exact (Ne.symm (gt tz (by simp) 102 (by decide)))))) (Ex.kp e_177) (by decide))) (Ex.kp e_182) (by decide))) (Ex.kp e_187) (by decide))) (Ex.kp e_190) (by decide))) (Ex.kp e_195) (by decide))) (Ex.kp e_198) (by decide))) (Ex.kp e_202) (by decide))) (Ex.kp e_206) (by decide))) (Ex.kp e_210) (by decide))) (Ex.kp e_214) (by decide))) (Ex.kp e_219) (by simp only [List.mem_cons, List.not_mem_nil, or_false]; exact (Ne.symm (gt tx (by simp) 102 (by decide)))))) (Ex.kp e_225) (by simp only [List.mem_cons, List.not_mem_nil, or_false]; exact (Ne.symm (gt ty (by simp) 102 (by decide)))))) (Ex.kp e_231) (by simp only [List.mem_cons, List.not_mem_nil, or_false]; exact (Ne.symm (gt tz (by simp) 102 (by decide)))))) (Ex.kp e_237) (by simp only [List.mem_cons, List.not_mem_nil, or_false]; exact (Ne.symm (gt tt (by simp) 102 (by decide)))))
  have p_240 := (RQ.kp ((RQ.kp ((RQ.kp ((RQ.kp ((RQ.kp ((RQ.kp ((RQ.kp ((RQ.kp ((RQ.kp ((RQ.kp ((RQ.kp ((RQ.kp ((RQ.kp ((RQ.kp ((RQ.kp ((RQ.kp ((RQ.kp ((RQ.kp ((RQ.kp ((RQ.kp ((RQ.kp ((RQ.kp ((RQ.kp ((RQ.kp ((RQ.kp ((RQ.kp ((RQ.kp ((RQ.kp ((RQ.kp ((RQ.kp ((RQ.kp ((RQ.kp ((RQ.kp ((RQ.kp ((RQ.kp ((RQ.kp ((RQ.kp ((RQ.kp ((RQ.kp ((RQ.kp ((RQ.kp ((RQ.kp ((RQ.kp ((RQ.kp ((RQ.kp ((RQ.kp ((RQ.kp ((RQ.kp ((RQ.kp ((RQ.kp ((RQ.kp ((RQ.kp ((RQ.kp ((hcs.2.2 101 (by decide))) (Ex.kp e_1) (by decide))) (Ex.kp e_5) (by decide))) (Ex.kp e_10) (by decide))) (Ex.kp e_13) (by decide))) (Ex.kp e_18) (by decide))) (Ex.kp e_21) (by decide))) (Ex.kp e_25) (by decide))) (Ex.kp e_29) (by decide))) (Ex.kp e_33) (by decide))) (Ex.kp e_37) (by decide))) (Ex.kp e_42) (by simp only [List.mem_cons, List.not_mem_nil, or_false]; exact (Ne.symm (gt tx (by simp) 101 (by decide)))))) (Ex.kp e_48) (by simp only [List.mem_cons, List.not_mem_nil, or_false]; exact (Ne.symm (gt ty (by simp) 101 (by decide)))))) (Ex.kp e_54) (by simp only [List.mem_cons, List.not_mem_nil, or_false]; exact (Ne.symm (gt tz (by simp) 101 (by decide)))))) (Ex.kp e_59) (by decide))) (Ex.kp e_64) (by decide))) (Ex.kp e_69) (by decide))) (Ex.kp e_72) (by decide))) (Ex.kp e_77) (by decide))) (Ex.kp e_80) (by decide))) (Ex.kp e_84) (by decide))) (Ex.kp e_88) (by decide))) (Ex.kp e_92) (by decide))) (Ex.kp e_96) (by decide))) (Ex.kp e_101) (by simp only [List.mem_cons, List.not_mem_nil, or_false]; exact (Ne.symm (gt tx (by simp) 101 (by decide)))))) (Ex.kp e_107) (by simp only [List.mem_cons, List.not_mem_nil, or_false]; exact (Ne.symm (gt ty (by simp) 101 (by decide)))))) (Ex.kp e_113) (by simp only [List.mem_cons, List.not_mem_nil, or_false]; exact (Ne.symm (gt tz (by simp) 101 (by decide)))))) (Ex.kp e_118) (by decide))) (Ex.kp e_123) (by decide))) (Ex.kp e_128) (by decide))) (Ex.kp e_131) (by decide))) (Ex.kp e_136) (by decide))) (Ex.kp e_139) (by decide))) (Ex.kp e_143) (by decide))) (Ex.kp e_147) (by decide))) (Ex.kp e_151) (by decide))) (Ex.kp e_155) (by decide))) (Ex.kp e_160) (by simp only [List.mem_cons, List.not_mem_nil, or_false]; exact (Ne.symm (gt tx (by simp) 101 (by decide)))))) (Ex.kp e_166) (by simp only [List.mem_cons, List.not_mem_nil, or_false]; exact (Ne.symm (gt ty (by simp) 101 (by decide)))))) (Ex.kp e_172) (by simp only [List.mem_cons, List.not_mem_nil, or_false]; exact (Ne.symm (gt tz (by simp) 101 (by decide)))))) (Ex.kp e_177) (by decide))) (Ex.kp e_182) (by decide))) (Ex.kp e_187) (by decide))) (Ex.kp e_190) (by decide))) (Ex.kp e_195) (by decide))) (Ex.kp e_198) (by decide))) (Ex.kp e_202) (by decide))) (Ex.kp e_206) (by decide))) (Ex.kp e_210) (by decide))) (Ex.kp e_214) (by decide))) (Ex.kp e_219) (by simp only [List.mem_cons, List.not_mem_nil, or_false]; exact (Ne.symm (gt tx (by simp) 101 (by decide)))))) (Ex.kp e_225) (by simp only [List.mem_cons, List.not_mem_nil, or_false]; exact (Ne.symm (gt ty (by simp) 101 (by decide)))))) (Ex.kp e_231) (by simp only [List.mem_cons, List.not_mem_nil, or_false]; exact (Ne.symm (gt tz (by simp) 101 (by decide)))))) (Ex.kp e_237) (by simp only [List.mem_cons, List.not_mem_nil, or_false]; exact (Ne.symm (gt tt (by simp) 101 (by decide)))))
  have p_241 := (RV.kp (p_236) (Ex.kp e_237) (by simp only [List.mem_cons, List.not_mem_nil, or_false]; exact (Ne.symm (gt tt (by simp) 100 (by decide)))))
  have p_242 := (RV.kp ((RV.kp (p_230) (Ex.kp e_231) (by simp only [List.mem_cons, List.not_mem_nil, or_false]; exact (Ne.symm (gt tz (by simp) 99 (by decide)))))) (Ex.kp e_237) (by simp only [List.mem_cons, List.not_mem_nil, or_false]; exact (Ne.symm (gt tt (by simp) 99 (by decide)))))
  have p_243 := (RV.kp ((RV.kp (p_229) (Ex.kp e_231) (by simp only [List.mem_cons, List.not_mem_nil, or_false]; exact (Ne.symm (gt tz (by simp) 98 (by decide)))))) (Ex.kp e_237) (by simp only [List.mem_cons, List.not_mem_nil, or_false]; exact (Ne.symm (gt tt (by simp) 98 (by decide)))))
  have p_244 := (RV.kp (p_235) (Ex.kp e_237) (by simp only [List.mem_cons, List.not_mem_nil, or_false]; exact (Ne.symm (gt tt (by simp) 97 (by decide)))))
  have p_245 := (RV.kp ((RV.kp ((RV.kp ((RV.kp ((RV.kp (p_213) (Ex.kp e_214) (by decide))) (Ex.kp e_219) (by simp only [List.mem_cons, List.not_mem_nil, or_false]; exact (Ne.symm (gt tx (by simp) 96 (by decide)))))) (Ex.kp e_225) (by simp only [List.mem_cons, List.not_mem_nil, or_false]; exact (Ne.symm (gt ty (by simp) 96 (by decide)))))) (Ex.kp e_231) (by simp only [List.mem_cons, List.not_mem_nil, or_false]; exact (Ne.symm (gt tz (by simp) 96 (by decide)))))) (Ex.kp e_237) (by simp only [List.mem_cons, List.not_mem_nil, or_false]; exact (Ne.symm (gt tt (by simp) 96 (by decide)))))
  have p_246 := (RV.kp ((RV.kp ((RV.kp ((RV.kp ((RV.kp ((RV.kp (p_208) (Ex.kp e_210) (by decide))) (Ex.kp e_214) (by decide))) (Ex.kp e_219) (by simp only [List.mem_cons, List.not_mem_nil, or_false]; exact (Ne.symm (gt tx (by simp) 95 (by decide)))))) (Ex.kp e_225) (by simp only [List.mem_cons, List.not_mem_nil, or_false]; exact (Ne.symm (gt ty (by simp) 95 (by decide)))))) (Ex.kp e_231) (by simp only [List.mem_cons, List.not_mem_nil, or_false]; exact (Ne.symm (gt tz (by simp) 95 (by decide)))))) (Ex.kp e_237) (by simp only [List.mem_cons, List.not_mem_nil, or_false]; exact (Ne.symm (gt tt (by simp) 95 (by decide)))))
  have p_247 := (RV.kp ((RV.kp ((RV.kp ((RV.kp ((RV.kp ((RV.kp (p_209) (Ex.kp e_210) (by decide))) (Ex.kp e_214) (by decide))) (Ex.kp e_219) (by simp only [List.mem_cons, List.not_mem_nil, or_false]; exact (Ne.symm (gt tx (by simp) 94 (by decide)))))) (Ex.kp e_225) (by simp only [List.mem_cons, List.not_mem_nil, or_false]; exact (Ne.symm (gt ty (by simp) 94 (by decide)))))) (Ex.kp e_231) (by simp only [List.mem_cons, List.not_mem_nil, or_false]; exact (Ne.symm (gt tz (by simp) 94 (by decide)))))) (Ex.kp e_237) (by simp only [List.mem_cons, List.not_mem_nil, or_false]; exact (Ne.symm (gt tt (by simp) 94 (by decide)))))
  have p_248 := (RQ.kp ((RQ.kp ((RQ.kp ((RQ.kp ((RQ.kp ((RQ.kp ((RQ.kp ((RQ.kp ((RQ.kp ((RQ.kp ((RQ.kp ((RQ.kp ((RQ.kp ((RQ.kp ((RQ.kp ((RQ.kp ((RQ.kp ((RQ.kp ((RQ.kp ((RQ.kp ((RQ.kp ((RQ.kp ((RQ.kp ((RQ.kp ((RQ.kp ((RQ.kp ((RQ.kp ((RQ.kp ((RQ.kp ((RQ.kp ((RQ.kp ((RQ.kp ((RQ.kp ((RQ.kp ((RQ.kp ((RQ.kp ((RQ.kp ((RQ.kp ((RQ.kp ((RQ.kp ((RQ.kp ((RQ.kp ((RQ.kp ((RQ.kp ((RQ.kp ((RQ.kp ((RQ.kp ((RQ.kp ((RQ.kp ((RQ.kp ((RQ.kp ((RQ.kp ((RQ.kp ((hcs.2.2 85 (by decide))) (Ex.kp e_1) (by decide))) (Ex.kp e_5) (by decide))) (Ex.kp e_10) (by decide))) (Ex.kp e_13) (by decide))) (Ex.kp e_18) (by decide))) (Ex.kp e_21) (by decide))) (Ex.kp e_25) (by decide))) (Ex.kp e_29) (by decide))) (Ex.kp e_33) (by decide))) (Ex.kp e_37) (by decide))) (Ex.kp e_42) (by simp only [List.mem_cons, List.not_mem_nil, or_false]; exact (Ne.symm (gt tx (by simp) 85 (by decide)))))) (Ex.kp e_48) (by simp only [List.mem_cons, List.not_mem_nil, or_false]; exact (Ne.symm (gt ty (by simp) 85 (by decide)))))) (Ex.kp e_54) (by simp only [List.mem_cons, List.not_mem_nil, or_false]; exact (Ne.symm (gt tz (by simp) 85 (by decide)))))) (Ex.kp e_59) (by decide))) (Ex.kp e_64) (by decide))) (Ex.kp e_69) (by decide))) (Ex.kp e_72) (by decide))) (Ex.kp e_77) (by decide))) (Ex.kp e_80) (by decide))) (Ex.kp e_84) (by decide))) (Ex.kp e_88) (by decide))) (Ex.kp e_92) (by decide))) (Ex.kp e_96) (by decide))) (Ex.kp e_101) (by simp only [List.mem_cons, List.not_mem_nil, or_false]; exact (Ne.symm (gt tx (by simp) 85 (by decide)))))) (Ex.kp e_107) (by simp only [List.mem_cons, List.not_mem_nil, or_false]; exact (Ne.symm (gt ty (by simp) 85 (by decide)))))) (Ex.kp e_113) (by simp only [List.mem_cons, List.not_mem_nil, or_false]; exact (Ne.symm (gt tz (by simp) 85 (by decide)))))) (Ex.kp e_118) (by decide))) (Ex.kp e_123) (by decide))) (Ex.kp e_128) (by decide))) (Ex.kp e_131) (by decide))) (Ex.kp e_136) (by decide))) (Ex.kp e_139) (by decide))) (Ex.kp e_143) (by decide))) (Ex.kp e_147) (by decide))) (Ex.kp e_151) (by decide))) (Ex.kp e_155) (by decide))) (Ex.kp e_160) (by simp only [List.mem_cons, List.not_mem_nil, or_false]; exact (Ne.symm (gt tx (by simp) 85 (by decide)))))) (Ex.kp e_166) (by simp only [List.mem_cons, List.not_mem_nil, or_false]; exact (Ne.symm (gt ty (by simp) 85 (by decide)))))) (Ex.kp e_172) (by simp only [List.mem_cons, List.not_mem_nil, or_false]; exact (Ne.symm (gt tz (by simp) 85 (by decide)))))) (Ex.kp e_177) (by decide))) (Ex.kp e_182) (by decide))) (Ex.kp e_187) (by decide))) (Ex.kp e_190) (by decide))) (Ex.kp e_195) (by decide))) (Ex.kp e_198) (by decide))) (Ex.kp e_202) (by decide))) (Ex.kp e_206) (by decide))) (Ex.kp e_210) (by decide))) (Ex.kp e_214) (by decide))) (Ex.kp e_219) (by simp only [List.mem_cons, List.not_mem_nil, or_false]; exact (Ne.symm (gt tx (by simp) 85 (by decide)))))) (Ex.kp e_225) (by simp only [List.mem_cons, List.not_mem_nil, or_false]; exact (Ne.symm (gt ty (by simp) 85 (by decide)))))) (Ex.kp e_231) (by simp only [List.mem_cons, List.not_mem_nil, or_false]; exact (Ne.symm (gt tz (by simp) 85 (by decide)))))) (Ex.kp e_237) (by simp only [List.mem_cons, List.not_mem_nil, or_false]; exact (Ne.symm (gt tt (by simp) 85 (by decide)))))
  have p_249 := (RQ.kp ((RQ.kp ((RQ.kp ((RQ.kp ((RQ.kp ((RQ.kp ((RQ.kp ((RQ.kp ((RQ.kp ((RQ.kp ((RQ.kp ((RQ.kp ((RQ.kp ((RQ.kp ((RQ.kp ((RQ.kp ((RQ.kp ((RQ.kp ((RQ.kp ((RQ.kp ((RQ.kp ((RQ.kp ((RQ.kp ((RQ.kp ((RQ.kp ((RQ.kp ((RQ.kp ((RQ.kp ((RQ.kp ((RQ.kp ((RQ.kp ((RQ.kp ((RQ.kp ((RQ.kp ((RQ.kp ((RQ.kp ((RQ.kp ((RQ.kp ((RQ.kp ((RQ.kp ((RQ.kp ((RQ.kp ((RQ.kp ((RQ.kp ((RQ.kp ((RQ.kp ((RQ.kp ((RQ.kp ((RQ.kp ((RQ.kp ((RQ.kp ((RQ.kp ((RQ.kp ((hcs.2.2 84 (by decide))) (Ex.kp e_1) (by decide))) (Ex.kp e_5) (by decide))) (Ex.kp e_10) (by decide))) (Ex.kp e_13) (by decide))) (Ex.kp e_18) (by decide))) (Ex.kp e_21) (by decide))) (Ex.kp e_25) (by decide))) (Ex.kp e_29) (by decide))) (Ex.kp e_33) (by decide))) (Ex.kp e_37) (by decide))) (Ex.kp e_42) (by simp only [List.mem_cons, List.not_mem_nil, or_false]; exact (Ne.symm (gt tx (by simp) 84 (by decide)))))) (Ex.kp e_48) (by simp only [List.mem_cons, List.not_mem_nil, or_false]; exact (Ne.symm (gt ty (by simp) 84 (by decide)))))) (Ex.kp e_54) (by simp only [List.mem_cons, List.not_mem_nil, or_false]; exact (Ne.symm (gt tz (by simp) 84 (by decide)))))) (Ex.kp e_59) (by decide))) (Ex.kp e_64) (by decide))) (Ex.kp e_69) (by decide))) (Ex.kp e_72) (by decide))) (Ex.kp e_77) (by decide))) (Ex.kp e_80) (by decide))) (Ex.kp e_84) (by decide))) (Ex.kp e_88) (by decide))) (Ex.kp e_92) (by decide))) (Ex.kp e_96) (by decide))) (Ex.kp e_101) (by simp only [List.mem_cons, List.not_mem_nil, or_false]; exact (Ne.symm (gt tx (by simp) 84 (by decide)))))) (Ex.kp e_107) (by simp only [List.mem_cons, List.not_mem_nil, or_false]; exact (Ne.symm (gt ty (by simp) 84 (by decide)))))) (Ex.kp e_113) (by simp only [List.mem_cons, List.not_mem_nil, or_false]; exact (Ne.symm (gt tz (by simp) 84 (by decide)))))) (Ex.kp e_118) (by decide))) (Ex.kp e_123) (by decide))) (Ex.kp e_128) (by decide))) (Ex.kp e_131) (by decide))) (Ex.kp e_136) (by decide))) (Ex.kp e_139) (by decide))) (Ex.kp e_143) (by decide))) (Ex.kp e_147) (by decide))) (Ex.kp e_151) (by decide))) (Ex.kp e_155) (by decide))) (Ex.kp e_160) (by simp only [List.mem_cons, List.not_mem_nil, or_false]; exact (Ne.symm (gt tx (by simp) 84 (by decide)))))) (Ex.kp e_166) (by simp only [List.mem_cons, List.not_mem_nil, or_false]; exact (Ne.symm (gt ty (by simp) 84 (by decide)))))) (Ex.kp e_172) (by simp only [List.mem_cons, List.not_mem_nil, or_false]; exact (Ne.symm (gt tz (by simp) 84 (by decide)))))) (Ex.kp e_177) (by decide))) (Ex.kp e_182) (by decide))) (Ex.kp e_187) (by decide))) (Ex.kp e_190) (by decide))) (Ex.kp e_195) (by decide))) (Ex.kp e_198) (by decide))) (Ex.kp e_202) (by decide))) (Ex.kp e_206) (by decide))) (Ex.kp e_210) (by decide))) (Ex.kp e_214) (by decide))) (Ex.kp e_219) (by simp only [List.mem_cons, List.not_mem_nil, or_false]; exact (Ne.symm (gt tx (by simp) 84 (by decide)))))) (Ex.kp e_225) (by simp only [List.mem_cons, List.not_mem_nil, or_false]; exact (Ne.symm (gt ty (by simp) 84 (by decide)))))) (Ex.kp e_231) (by simp only [List.mem_cons, List.not_mem_nil, or_false]; exact (Ne.symm (gt tz (by simp) 84 (by decide)))))) (Ex.kp e_237) (by simp only [List.mem_cons, List.not_mem_nil, or_false]; exact (Ne.symm (gt tt (by simp) 84 (by decide)))))
  have p_250 := (RQ.kp ((RQ.kp ((RQ.kp ((RQ.kp ((RQ.kp ((RQ.kp ((RQ.kp ((RQ.kp ((RQ.kp ((RQ.kp ((RQ.kp ((RQ.kp ((RQ.kp ((RQ.kp ((RQ.kp ((RQ.kp ((RQ.kp ((RQ.kp ((RQ.kp ((RQ.kp ((RQ.kp ((RQ.kp ((RQ.kp ((RQ.kp ((RQ.kp ((RQ.kp ((RQ.kp ((RQ.kp ((RQ.kp ((RQ.kp ((RQ.kp ((RQ.kp ((RQ.kp ((RQ.kp ((RQ.kp ((RQ.kp ((RQ.kp ((RQ.kp ((RQ.kp ((RQ.kp ((RQ.kp ((RQ.kp ((RQ.kp ((RQ.kp ((RQ.kp ((RQ.kp ((RQ.kp ((RQ.kp ((RQ.kp ((RQ.kp ((RQ.kp ((RQ.kp ((RQ.kp ((hcs.2.2 83 (by decide))) (Ex.kp e_1) (by decide))) (Ex.kp e_5) (by decide))) (Ex.kp e_10) (by decide))) (Ex.kp e_13) (by decide))) (Ex.kp e_18) (by decide))) (Ex.kp e_21) (by decide))) (Ex.kp e_25) (by decide))) (Ex.kp e_29) (by decide))) (Ex.kp e_33) (by decide))) (Ex.kp e_37) (by decide))) (Ex.kp e_42) (by simp only [List.mem_cons, List.not_mem_nil, or_false]; exact (Ne.symm (gt tx (by simp) 83 (by decide)))))) (Ex.kp e_48) (by simp only [List.mem_cons, List.not_mem_nil, or_false]; exact (Ne.symm (gt ty (by simp) 83 (by decide)))))) (Ex.kp e_54) (by simp only [List.mem_cons, List.not_mem_nil, or_false]; exact (Ne.symm (gt tz (by simp) 83 (by decide)))))) (Ex.kp e_59) (by decide))) (Ex.kp e_64) (by decide))) (Ex.kp e_69) (by decide))) (Ex.kp e_72) (by decide))) (Ex.kp e_77) (by decide))) (Ex.kp e_80) (by decide))) (Ex.kp e_84) (by decide))) (Ex.kp e_88) (by decide))) (Ex.kp e_92) (by decide))) (Ex.kp e_96) (by decide))) (Ex.kp e_101) (by simp only [List.mem_cons, List.not_mem_nil, or_false]; exact (Ne.symm (gt tx (by simp) 83 (by decide)))))) (Ex.kp e_107) (by simp only [List.mem_cons, List.not_mem_nil, or_false]; exact (Ne.symm (gt ty (by simp) 83 (by decide)))))) (Ex.kp e_113) (by simp only [List.mem_cons, List.not_mem_nil, or_false]; exact (Ne.symm (gt tz (by simp) 83 (by decide)))))) (Ex.kp e_118) (by decide))) (Ex.kp e_123) (by decide))) (Ex.kp e_128) (by decide))) (Ex.kp e_131) (by decide))) (Ex.kp e_136) (by decide))) (Ex.kp e_139) (by decide))) (Ex.kp e_143) (by decide))) (Ex.kp e_147) (by decide))) (Ex.kp e_151) (by decide))) (Ex.kp e_155) (by decide))) (Ex.kp e_160) (by simp only [List.mem_cons, List.not_mem_nil, or_false]; exact (Ne.symm (gt tx (by simp) 83 (by decide)))))) (Ex.kp e_166) (by simp only [List.mem_cons, List.not_mem_nil, or_false]; exact (Ne.symm (gt ty (by simp) 83 (by decide)))))) (Ex.kp e_172) (by simp only [List.mem_cons, List.not_mem_nil, or_false]; exact (Ne.symm (gt tz (by simp) 83 (by decide)))))) (Ex.kp e_177) (by decide))) (Ex.kp e_182) (by decide))) (Ex.kp e_187) (by decide))) (Ex.kp e_190) (by decide))) (Ex.kp e_195) (by decide))) (Ex.kp e_198) (by decide))) (Ex.kp e_202) (by decide))) (Ex.kp e_206) (by decide))) (Ex.kp e_210) (by decide))) (Ex.kp e_214) (by decide))) (Ex.kp e_219) (by simp only [List.mem_cons, List.not_mem_nil, or_false]; exact (Ne.symm (gt tx (by simp) 83 (by decide)))))) (Ex.kp e_225) (by simp only [List.mem_cons, List.not_mem_nil, or_false]; exact (Ne.symm (gt ty (by simp) 83 (by decide)))))) (Ex.kp e_231) (by simp only [List.mem_cons, List.not_mem_nil, or_false]; exact (Ne.symm (gt tz (by simp) 83 (by decide)))))) (Ex.kp e_237) (by simp only [List.mem_cons, List.not_mem_nil, or_false]; exact (Ne.symm (gt tt (by simp) 83 (by decide)))))
  have p_251 := (RQ.kp ((RQ.kp ((RQ.kp ((RQ.kp ((RQ.kp ((RQ.kp ((RQ.kp ((RQ.kp ((RQ.kp ((RQ.kp ((RQ.kp ((RQ.kp ((RQ.kp ((RQ.kp ((RQ.kp ((RQ.kp ((RQ.kp ((RQ.kp ((RQ.kp ((RQ.kp ((RQ.kp ((RQ.kp ((RQ.kp ((RQ.kp ((RQ.kp ((RQ.kp ((RQ.kp ((RQ.kp ((RQ.kp ((RQ.kp ((RQ.kp ((RQ.kp ((RQ.kp ((RQ.kp ((RQ.kp ((RQ.kp ((RQ.kp ((RQ.kp ((RQ.kp ((RQ.kp ((RQ.kp ((RQ.kp ((RQ.kp ((RQ.kp ((RQ.kp ((RQ.kp ((RQ.kp ((RQ.kp ((RQ.kp ((RQ.kp ((RQ.kp ((RQ.kp ((RQ.kp ((hcs.2.2 82 (by decide))) (Ex.kp e_1) (by decide))) (Ex.kp e_5) (by decide))) (Ex.kp e_10) (by decide))) (Ex.kp e_13) (by decide))) (Ex.kp e_18) (by decide))) (Ex.kp e_21) (by decide))) (Ex.kp e_25) (by decide))) (Ex.kp e_29) (by decide))) (Ex.kp e_33) (by decide))) (Ex.kp e_37) (by decide))) (Ex.kp e_42) (by simp only [List.mem_cons, List.not_mem_nil, or_false]; exact (Ne.symm (gt tx (by simp) 82 (by decide)))))) (Ex.kp e_48) (by simp only [List.mem_cons, List.not_mem_nil, or_false]; exact (Ne.symm (gt ty (by simp) 82 (by decide)))))) (Ex.kp e_54) (by simp only [List.mem_cons, List.not_mem_nil, or_false]; exact (Ne.symm (gt tz (by simp) 82 (by decide)))))) (Ex.kp e_59) (by decide))) (Ex.kp e_64) (by decide))) (Ex.kp e_69) (by decide))) (Ex.kp e_72) (by decide))) (Ex.kp e_77) (by decide))) (Ex.kp e_80) (by decide))) (Ex.kp e_84) (by decide))) (Ex.kp e_88) (by decide))) (Ex.kp e_92) (by decide))) (Ex.kp e_96) (by decide))) (Ex.kp e_101) (by simp only [List.mem_cons, List.not_mem_nil, or_false]; exact (Ne.symm (gt tx (by simp) 82 (by decide)))))) (Ex.kp e_107) (by simp only [List.mem_cons, List.not_mem_nil, or_false]; exact (Ne.symm (gt ty (by simp) 82 (by decide)))))) (Ex.kp e_113) (by simp only [List.mem_cons, List.not_mem_nil, or_false]; exact (Ne.symm (gt tz (by simp) 82 (by decide)))))) (Ex.kp e_118) (by decide))) (Ex.kp e_123) (by decide))) (Ex.kp e_128) (by decide))) (Ex.kp e_131) (by decide))) (Ex.kp e_136) (by decide))) (Ex.kp e_139) (by decide))) (Ex.kp e_143) (by decide))) (Ex.kp e_147) (by decide))) (Ex.kp e_151) (by decide))) (Ex.kp e_155) (by decide))) (Ex.kp e_160) (by simp only [List.mem_cons, List.not_mem_nil, or_false]; exact (Ne.symm (gt tx (by simp) 82 (by decide)))))) (Ex.kp e_166) (by simp only [List.mem_cons, List.not_mem_nil, or_false]; exact (Ne.symm (gt ty (by simp) 82 (by decide)))))) (Ex.kp e_172) (by simp only [List.mem_cons, List.not_mem_nil, or_false]; exact (Ne.symm (gt tz (by simp) 82 (by decide)))))) (Ex.kp e_177) (by decide))) (Ex.kp e_182) (by decide))) (Ex.kp e_187) (by decide))) (Ex.kp e_190) (by decide))) (Ex.kp e_195) (by decide))) (Ex.kp e_198) (by decide))) (Ex.kp e_202) (by decide))) (Ex.kp e_206) (by decide))) (Ex.kp e_210) (by decide))) (Ex.kp e_214) (by decide))) (Ex.kp e_219) (by simp only [List.mem_cons, List.not_mem_nil, or_false]; exact (Ne.symm (gt tx (by simp) 82 (by decide)))))) (Ex.kp e_225) (by simp only [List.mem_cons, List.not_mem_nil, or_false]; exact (Ne.symm (gt ty (by simp) 82 (by decide)))))) (Ex.kp e_231) (by simp only [List.mem_cons, List.not_mem_nil, or_false]; exact (Ne.symm (gt tz (by simp) 82 (by decide)))))) (Ex.kp e_237) (by simp only [List.mem_cons, List.not_mem_nil, or_false]; exact (Ne.symm (gt tt (by simp) 82 (by decide)))))
  have p_252 := (RQ.kp ((RQ.kp ((RQ.kp ((RQ.kp ((RQ.kp ((RQ.kp ((RQ.kp ((RQ.kp ((RQ.kp ((RQ.kp ((RQ.kp ((RQ.kp ((RQ.kp ((RQ.kp ((RQ.kp ((RQ.kp ((RQ.kp ((RQ.kp ((RQ.kp ((RQ.kp ((RQ.kp ((RQ.kp ((RQ.kp ((RQ.kp ((RQ.kp ((RQ.kp ((RQ.kp ((RQ.kp ((RQ.kp ((RQ.kp ((RQ.kp ((RQ.kp ((RQ.kp ((RQ.kp ((RQ.kp ((RQ.kp ((RQ.kp ((RQ.kp ((RQ.kp ((RQ.kp ((RQ.kp ((RQ.kp ((RQ.kp ((RQ.kp ((RQ.kp ((RQ.kp ((RQ.kp ((RQ.kp ((RQ.kp ((RQ.kp ((RQ.kp ((RQ.kp ((RQ.kp ((hcs.2.2 81 (by decide))) (Ex.kp e_1) (by decide))) (Ex.kp e_5) (by decide))) (Ex.kp e_10) (by decide))) (Ex.kp e_13) (by decide))) (Ex.kp e_18) (by decide))) (Ex.kp e_21) (by decide))) (Ex.kp e_25) (by decide))) (Ex.kp e_29) (by decide))) (Ex.kp e_33) (by decide))) (Ex.kp e_37) (by decide))) (Ex.kp e_42) (by simp only [List.mem_cons, List.not_mem_nil, or_false]; exact (Ne.symm (gt tx (by simp) 81 (by decide)))))) (Ex.kp e_48) (by simp only [List.mem_cons, List.not_mem_nil, or_false]; exact (Ne.symm (gt ty (by simp) 81 (by decide)))))) (Ex.kp e_54) (by simp only [List.mem_cons, List.not_mem_nil, or_false]; exact (Ne.symm (gt tz (by simp) 81 (by decide)))))) (Ex.kp e_59) (by decide))) (Ex.kp e_64) (by decide))) (Ex.kp e_69) (by decide))) (Ex.kp e_72) (by decide))) (Ex.kp e_77) (by decide))) (Ex.kp e_80) (by decide))) (Ex.kp e_84) (by decide))) (Ex.kp e_88) (by decide))) (Ex.kp e_92) (by decide))) (Ex.kp e_96) (by decide))) (Ex.kp e_101) (by simp only [List.mem_cons, List.not_mem_nil, or_false]; exact (Ne.symm (gt tx (by simp) 81 (by decide)))))) (Ex.kp e_107) (by simp only [List.mem_cons, List.not_mem_nil, or_false]; exact (Ne.symm (gt ty (by simp) 81 (by decide)))))) (Ex.kp e_113) (by simp only [List.mem_cons, List.not_mem_nil, or_false]; exact (Ne.symm (gt tz (by simp) 81 (by decide)))))) (Ex.kp e_118) (by decide))) (Ex.kp e_123) (by decide))) (Ex.kp e_128) (by decide))) (Ex.kp e_131) (by decide))) (Ex.kp e_136) (by decide))) (Ex.kp e_139) (by decide))) (Ex.kp e_143) (by decide))) (Ex.kp e_147) (by decide))) (Ex.kp e_151) (by decide))) (Ex.kp e_155) (by decide))) (Ex.kp e_160) (by simp only [List.mem_cons, List.not_mem_nil, or_false]; exact (Ne.symm (gt tx (by simp) 81 (by decide)))))) (Ex.kp e_166) (by simp only [List.mem_cons, List.not_mem_nil, or_false]; exact (Ne.symm (gt ty (by simp) 81 (by decide)))))) (Ex.kp e_172) (by simp only [List.mem_cons, List.not_mem_nil, or_false]; exact (Ne.symm (gt tz (by simp) 81 (by decide)))))) (Ex.kp e_177) (by decide))) (Ex.kp e_182) (by decide))) (Ex.kp e_187) (by decide))) (Ex.kp e_190) (by decide))) (Ex.kp e_195) (by decide))) (Ex.kp e_198) (by decide))) (Ex.kp e_202) (by decide))) (Ex.kp e_206) (by decide))) (Ex.kp e_210) (by decide))) (Ex.kp e_214) (by decide))) (Ex.kp e_219) (by simp only [List.mem_cons, List.not_mem_nil, or_false]; exact (Ne.symm (gt tx (by simp) 81 (by decide)))))) (Ex.kp e_225) (by simp only [List.mem_cons, List.not_mem_nil, or_false]; exact (Ne.symm (gt ty (by simp) 81 (by decide)))))) (Ex.kp e_231) (by simp only [List.mem_cons, List.not_mem_nil, or_false]; exact (Ne.symm (gt tz (by simp) 81 (by decide)))))) (Ex.kp e_237) (by simp only [List.mem_cons, List.not_mem_nil, or_false]; exact (Ne.symm (gt tt (by simp) 81 (by decide)))))
  have p_253 := (RQ.kp ((RQ.kp ((RQ.kp ((RQ.kp ((RQ.kp ((RQ.kp ((RQ.kp ((RQ.kp ((RQ.kp ((RQ.kp ((RQ.kp ((RQ.kp ((RQ.kp ((RQ.kp ((RQ.kp ((RQ.kp ((RQ.kp ((RQ.kp ((RQ.kp ((RQ.kp ((RQ.kp ((RQ.kp ((RQ.kp ((RQ.kp ((RQ.kp ((RQ.kp ((RQ.kp ((RQ.kp ((RQ.kp ((RQ.kp ((RQ.kp ((RQ.kp ((RQ.kp ((RQ.kp ((RQ.kp ((RQ.kp ((RQ.kp ((RQ.kp ((RQ.kp ((RQ.kp ((RQ.kp ((RQ.kp ((RQ.kp ((RQ.kp ((RQ.kp ((RQ.kp ((RQ.kp ((RQ.kp ((RQ.kp ((RQ.kp ((RQ.kp ((RQ.kp ((RQ.kp ((hcs.2.2 80 (by decide))) (Ex.kp e_1) (by decide))) (Ex.kp e_5) (by decide))) (Ex.kp e_10) (by decide))) (Ex.kp e_13) (by decide))) (Ex.kp e_18) (by decide))) (Ex.kp e_21) (by decide))) (Ex.kp e_25) (by decide))) (Ex.kp e_29) (by decide))) (Ex.kp e_33) (by decide))) (Ex.kp e_37) (by decide))) (Ex.kp e_42) (by simp only [List.mem_cons, List.not_mem_nil, or_false]; exact (Ne.symm (gt tx (by simp) 80 (by decide)))))) (Ex.kp e_48) (by simp only [List.mem_cons, List.not_mem_nil, or_false]; exact (Ne.symm (gt ty (by simp) 80 (by decide)))))) (Ex.kp e_54) (by simp only [List.mem_cons, List.not_mem_nil, or_false]; exact (Ne.symm (gt tz (by simp) 80 (by decide)))))) (Ex.kp e_59) (by decide))) (Ex.kp e_64) (by decide))) (Ex.kp e_69) (by decide))) (Ex.kp e_72) (by decide))) (Ex.kp e_77) (by decide))) (Ex.kp e_80) (by decide))) (Ex.kp e_84) (by decide))) (Ex.kp e_88) (by decide))) (Ex.kp e_92) (by decide))) (Ex.kp e_96) (by decide))) (Ex.kp e_101) (by simp only [List.mem_cons, List.not_mem_nil, or_false]; exact (Ne.symm (gt tx (by simp) 80 (by decide)))))) (Ex.kp e_107) (by simp only [List.mem_cons, List.not_mem_nil, or_false]; exact (Ne.symm (gt ty (by simp) 80 (by decide)))))) (Ex.kp e_113) (by simp only [List.mem_cons, List.not_mem_nil, or_false]; exact (Ne.symm (gt tz (by simp) 80 (by decide)))))) (Ex.kp e_118) (by decide))) (Ex.kp e_123) (by decide))) (Ex.kp e_128) (by decide))) (Ex.kp e_131) (by decide))) (Ex.kp e_136) (by decide))) (Ex.kp e_139) (by decide))) (Ex.kp e_143) (by decide))) (Ex.kp e_147) (by decide))) (Ex.kp e_151) (by decide))) (Ex.kp e_155) (by decide))) (Ex.kp e_160) (by simp only [List.mem_cons, List.not_mem_nil, or_false]; exact (Ne.symm (gt tx (by simp) 80 (by decide)))))) (Ex.kp e_166) (by simp only [List.mem_cons, List.not_mem_nil, or_false]; exact (Ne.symm (gt ty (by simp) 80 (by decide)))))) (Ex.kp e_172) (by simp only [List.mem_cons, List.not_mem_nil, or_false]; exact (Ne.symm (gt tz (by simp) 80 (by decide)))))) (Ex.kp e_177) (by decide))) (Ex.kp e_182) (by decide))) (Ex.kp e_187) (by decide))) (Ex.kp e_190) (by decide))) (Ex.kp e_195) (by decide))) (Ex.kp e_198) (by decide))) (Ex.kp e_202) (by decide))) (Ex.kp e_206) (by decide))) (Ex.kp e_210) (by decide))) (Ex.kp e_214) (by decide))) (Ex.kp e_219) (by simp only [List.mem_cons, List.not_mem_nil, or_false]; exact (Ne.symm (gt tx (by simp) 80 (by decide)))))) (Ex.kp e_225) (by simp only [List.mem_cons, List.not_mem_nil, or_false]; exact (Ne.symm (gt ty (by simp) 80 (by decide)))))) (Ex.kp e_231) (by simp only [List.mem_cons, List.not_mem_nil, or_false]; exact (Ne.symm (gt tz (by simp) 80 (by decide)))))) (Ex.kp e_237) (by simp only [List.mem_cons, List.not_mem_nil, or_false]; exact (Ne.symm (gt tt (by simp) 80 (by decide)))))
  have p_254 := (RQ.kp ((RQ.kp ((RQ.kp ((RQ.kp ((RQ.kp ((RQ.kp ((RQ.kp ((RQ.kp ((RQ.kp ((RQ.kp ((RQ.kp ((RQ.kp ((RQ.kp ((RQ.kp ((RQ.kp ((RQ.kp ((RQ.kp ((RQ.kp ((RQ.kp ((RQ.kp ((RQ.kp ((RQ.kp ((RQ.kp ((RQ.kp ((RQ.kp ((RQ.kp ((RQ.kp ((RQ.kp ((RQ.kp ((RQ.kp ((RQ.kp ((RQ.kp ((RQ.kp ((RQ.kp ((RQ.kp ((RQ.kp ((RQ.kp ((RQ.kp ((RQ.kp ((RQ.kp ((RQ.kp ((RQ.kp ((RQ.kp ((RQ.kp ((RQ.kp ((RQ.kp ((RQ.kp ((RQ.kp ((RQ.kp ((RQ.kp ((RQ.kp ((RQ.kp ((RQ.kp ((hcs.2.2 79 (by decide))) (Ex.kp e_1) (by decide))) (Ex.kp e_5) (by decide))) (Ex.kp e_10) (by decide))) (Ex.kp e_13) (by decide))) (Ex.kp e_18) (by decide))) (Ex.kp e_21) (by decide))) (Ex.kp e_25) (by decide))) (Ex.kp e_29) (by decide))) (Ex.kp e_33) (by decide))) (Ex.kp e_37) (by decide))) (Ex.kp e_42) (by simp only [List.mem_cons, List.not_mem_nil, or_false]; exact (Ne.symm (gt tx (by simp) 79 (by decide)))))) (Ex.kp e_48) (by simp only [List.mem_cons, List.not_mem_nil, or_false]; exact (Ne.symm (gt ty (by simp) 79 (by decide)))))) (Ex.kp e_54) (by simp only [List.mem_cons, List.not_mem_nil, or_false]; exact (Ne.symm (gt tz (by simp) 79 (by decide)))))) (Ex.kp e_59) (by decide))) (Ex.kp e_64) (by decide))) (Ex.kp e_69) (by decide))) (Ex.kp e_72) (by decide))) (Ex.kp e_77) (by decide))) (Ex.kp e_80) (by decide))) (Ex.kp e_84) (by decide))) (Ex.kp e_88) (by decide))) (Ex.kp e_92) (by decide))) (Ex.kp e_96) (by decide))) (Ex.kp e_101) (by simp only [List.mem_cons, List.not_mem_nil, or_false]; exact (Ne.symm (gt tx (by simp) 79 (by decide)))))) (Ex.kp e_107) (by simp only [List.mem_cons, List.not_mem_nil, or_false]; exact (Ne.symm (gt ty (by simp) 79 (by decide)))))) (Ex.kp e_113) (by simp only [List.mem_cons, List.not_mem_nil, or_false]; exact (Ne.symm (gt tz (by simp) 79 (by decide)))))) (Ex.kp e_118) (by decide))) (Ex.kp e_123) (by decide))) (Ex.kp e_128) (by decide))) (Ex.kp e_131) (by decide))) (Ex.kp e_136) (by decide))) (Ex.kp e_139) (by decide))) (Ex.kp e_143) (by decide))) (Ex.kp e_147) (by decide))) (Ex.kp e_151) (by decide))) (Ex.kp e_155) (by decide))) (Ex.kp e_160) (by simp only [List.mem_cons, List.not_mem_nil, or_false]; exact (Ne.symm (gt tx (by simp) 79 (by decide)))))) (Ex.kp e_166) (by simp only [List.mem_cons, List.not_mem_nil, or_false]; exact (Ne.symm (gt ty (by simp) 79 (by decide)))))) (Ex.kp e_172) (by simp only [List.mem_cons, List.not_mem_nil, or_false]; exact (Ne.symm (gt tz (by simp) 79 (by decide)))))) (Ex.kp e_177) (by decide))) (Ex.kp e_182) (by decide))) (Ex.kp e_187) (by decide))) (Ex.kp e_190) (by decide))) (Ex.kp e_195) (by decide))) (Ex.kp e_198) (by decide))) (Ex.kp e_202) (by decide))) (Ex.kp e_206) (by decide))) (Ex.kp e_210) (by decide))) (Ex.kp e_214) (by decide))) (Ex.kp e_219) (by simp only [List.mem_cons, List.not_mem_nil, or_false]; exact (Ne.symm (gt tx (by simp) 79 (by decide)))))) (Ex.kp e_225) (by simp only [List.mem_cons, List.not_mem_nil, or_false]; exact (Ne.symm (gt ty (by simp) 79 (by decide)))))) (Ex.kp e_231) (by simp only [List.mem_cons, List.not_mem_nil, or_false]; exact (Ne.symm (gt tz (by simp) 79 (by decide)))))) (Ex.kp e_237) (by simp only [List.mem_cons, List.not_mem_nil, or_false]; exact (Ne.symm (gt tt (by simp) 79 (by decide)))))
  have h_255 := (e_237 77 (Ne.symm (gt tt (by simp) 77 (by decide)))).trans (h_234)
  have h_256 := (e_237 78 (Ne.symm (gt tt (by simp) 78 (by decide)))).trans ((e_231 78 (Ne.symm (gt tz (by simp) 78 (by decide)))).trans ((e_225 78 (Ne.symm (gt ty (by simp) 78 (by decide)))).trans ((e_219 78 (Ne.symm (gt tx (by simp) 78 (by decide)))).trans ((e_214 78 (by decide)).trans ((e_210 78 (by decide)).trans ((e_206 78 (by decide)).trans ((e_202 78 (by decide)).trans ((e_198 78 (by decide)).trans ((e_195 78 (by decide)).trans ((e_190 78 (by decide)).trans ((e_187 78 (by decide)).trans ((e_182 78 (by decide)).trans ((e_177 78 (by decide)).trans ((e_172 78 (Ne.symm (gt tz (by simp) 78 (by decide)))).trans ((e_166 78 (Ne.symm (gt ty (by simp) 78 (by decide)))).trans ((e_160 78 (Ne.symm (gt tx (by simp) 78 (by decide)))).trans ((e_155 78 (by decide)).trans ((e_151 78 (by decide)).trans ((e_147 78 (by decide)).trans ((e_143 78 (by decide)).trans ((e_139 78 (by decide)).trans ((e_136 78 (by decide)).trans ((e_131 78 (by decide)).trans ((e_128 78 (by decide)).trans ((e_123 78 (by decide)).trans ((e_118 78 (by decide)).trans ((e_113 78 (Ne.symm (gt tz (by simp) 78 (by decide)))).trans ((e_107 78 (Ne.symm (gt ty (by simp) 78 (by decide)))).trans ((e_101 78 (Ne.symm (gt tx (by simp) 78 (by decide)))).trans ((e_96 78 (by decide)).trans ((e_92 78 (by decide)).trans ((e_88 78 (by decide)).trans ((e_84 78 (by decide)).trans ((e_80 78 (by decide)).trans ((e_77 78 (by decide)).trans ((e_72 78 (by decide)).trans ((e_69 78 (by decide)).trans ((e_64 78 (by decide)).trans ((e_59 78 (by decide)).trans ((e_54 78 (Ne.symm (gt tz (by simp) 78 (by decide)))).trans ((e_48 78 (Ne.symm (gt ty (by simp) 78 (by decide)))).trans ((e_42 78 (Ne.symm (gt tx (by simp) 78 (by decide)))).trans ((e_37 78 (by decide)).trans ((e_33 78 (by decide)).trans ((e_29 78 (by decide)).trans ((e_25 78 (by decide)).trans ((e_21 78 (by decide)).trans ((e_18 78 (by decide)).trans ((e_13 78 (by decide)).trans ((e_10 78 (by decide)).trans ((e_5 78 (by decide)).trans ((e_1 78 (by decide)).trans (hcs.2.1)))))))))))))))))))))))))))))))))))))))))))))))))))))
  have h_257 := (e_237 to m_3).trans (h_233)
  have p_258 := (RV.kp ((RV.kp ((RV.kp (v_219) (Ex.kp e_225) (by simp only [List.mem_cons, List.not_mem_nil, or_false]; exact n_0_1))) (Ex.kp e_231) (by simp only [List.mem_cons, List.not_mem_nil, or_false]; exact n_0_2))) (Ex.kp e_237) (by simp only [List.mem_cons, List.not_mem_nil, or_false]; exact n_0_3))
  have p_259 := (RV.kp ((RV.kp (v_225) (Ex.kp e_231) (by simp only [List.mem_cons, List.not_mem_nil, or_false]; exact n_1_2))) (Ex.kp e_237) (by simp only [List.mem_cons, List.not_mem_nil, or_false]; exact n_1_3))
  have p_260 := (RV.kp (v_231) (Ex.kp e_237) (by simp only [List.mem_cons, List.not_mem_nil, or_false]; exact n_2_3))
  exact T_vret d_Cu_doubleTimes_211 rfl (by decide) (by decide) ⟨rfl, ⟨h_255, h_256, (List.forall_mem_cons.mpr ⟨p_254, (List.forall_mem_cons.mpr ⟨p_253, (List.forall_mem_cons.mpr ⟨p_252, (List.forall_mem_cons.mpr ⟨p_251, (List.forall_mem_cons.mpr ⟨p_250, (List.forall_mem_cons.mpr ⟨p_249, (List.forall_mem_cons.mpr ⟨p_248, (List.forall_mem_cons.mpr ⟨(Rv.rq p_247), (List.forall_mem_cons.mpr ⟨(Rv.rq p_246), (List.forall_mem_cons.mpr ⟨(Rv.rq p_245), (List.forall_mem_cons.mpr ⟨(Rv.rq p_244), (List.forall_mem_cons.mpr ⟨(Rv.rq p_243), (List.forall_mem_cons.mpr ⟨(Rv.rq p_242), (List.forall_mem_cons.mpr ⟨(Rv.rq p_241), (List.forall_mem_cons.mpr ⟨p_240, (List.forall_mem_cons.mpr ⟨p_239, (fun _ h => absurd h (List.not_mem_nil))⟩)⟩)⟩)⟩)⟩)⟩)⟩)⟩)⟩)⟩)⟩)⟩)⟩)⟩)⟩)⟩)⟩, ⟨h_257, _, _, _, _, Rv.up p_258 (by decide), p_259, p_260, v_237, K4⟩, (Kp.ex (Kp.ex (Kp.ex (Kp.ex (Kp.ex (Kp.ex (Kp.ex (Kp.ex (Kp.ex (Kp.ex (Kp.ex (Kp.ex (Kp.ex (Kp.ex (Kp.ex (Kp.ex (Kp.ex (Kp.ex (Kp.ex (Kp.ex (Kp.ex (Kp.ex (Kp.ex (Kp.ex (Kp.ex (Kp.ex (Kp.ex (Kp.ex (Kp.ex (Kp.ex (Kp.ex (Kp.ex (Kp.ex (Kp.ex (Kp.ex (Kp.ex (Kp.ex (Kp.ex (Kp.ex (Kp.ex (Kp.ex (Kp.ex (Kp.ex (Kp.ex (Kp.ex (Kp.ex (Kp.ex (Kp.ex (Kp.ex (Kp.ex (Kp.ex (Kp.ex (Kp.ex (Kp.rf : Kp [94, 95, 96, 97, 98, 99, 100, 102, tx, ty, tz, tt] M M) e_1 (by simp)) e_5 (by simp)) e_10 (by simp)) e_13 (by simp)) e_18 (by simp)) e_21 (by simp)) e_25 (by simp)) e_29 (by simp)) e_33 (by simp)) e_37 (by simp)) e_42 (by simp)) e_48 (by simp)) e_54 (by simp)) e_59 (by simp)) e_64 (by simp)) e_69 (by simp)) e_72 (by simp)) e_77 (by simp)) e_80 (by simp)) e_84 (by simp)) e_88 (by simp)) e_92 (by simp)) e_96 (by simp)) e_101 (by simp)) e_107 (by simp)) e_113 (by simp)) e_118 (by simp)) e_123 (by simp)) e_128 (by simp)) e_131 (by simp)) e_136 (by simp)) e_139 (by simp)) e_143 (by simp)) e_147 (by simp)) e_151 (by simp)) e_155 (by simp)) e_160 (by simp)) e_166 (by simp)) e_172 (by simp)) e_177 (by simp)) e_182 (by simp)) e_187 (by simp)) e_190 (by simp)) e_195 (by simp)) e_198 (by simp)) e_202 (by simp)) e_206 (by simp)) e_210 (by simp)) e_214 (by simp)) e_219 (by simp)) e_225 (by simp)) e_231 (by simp)) e_237 (by simp))⟩

theorem ph_I : ph cv_2 = fI := by unfold fI; rw [show cv_2 = 19681161376707505956807079304988542015446066515923890162744021073123829784752 from by decide]
theorem ph_cI : ph cI = fI := rfl
theorem ph_cD : ph cD = fD := rfl
theorem ph_pw (x : Int) (k : Nat) : ph (pw x k) = ph x ^ k := ph_pow x k
theorem eR_e : eR = 7237005577332262213973186563042994240829374041602535252466099000494570602493 := by decide
theorem ph_rtA (u w : Int) : ph (rtA u w) = rA (ph u) (ph w) := by
  unfold rtA rA
  rw [eR_e]
  simp only [ph_mul, ph_pw]
theorem ph_rtC (u w : Int) : ph (rtC u w) = rC (ph u) (ph w) := by unfold rtC rC; simp only [ph_mul, ph_rtA]
theorem ph_rtB (u w : Int) : ph (rtB u w) = rB (ph u) (ph w) := by
  unfold rtB rB
  have e1 : (rtC u w + u) % pP = 0 ↔ rC (ph u) (ph w) + ph u = 0 := by rw [← ph_z, ph_add, ph_rtC]
  have e2 : (rtC u w + u * cv_2) % pP = 0 ↔ rC (ph u) (ph w) + ph u * fI = 0 := by rw [← ph_z, ph_add, ph_rtC, ph_mul, ph_I]
  by_cases c : (rtC u w + u) % pP = 0 ∨ (rtC u w + u * cv_2) % pP = 0
  · rw [if_pos c, if_pos (c.imp e1.mp e2.mp), ph_mul, ph_rtA, ph_I]
  · rw [if_neg c, if_neg (fun z => c (z.imp e1.mpr e2.mpr)), ph_rtA]
theorem ph_ab (x : Int) : ph (if (x % pP) % 2 = 1 then -x else x) = ab (ph x) := by
  unfold ab
  by_cases c : (x % pP) % 2 = 1
  · rw [if_pos c, if_pos (od_ph.mpr c), ph_neg]
  · rw [if_neg c, if_neg (fun z => c (od_ph.mp z))]
theorem ph_rt (u w : Int) : ph (rt u w) = rR (ph u) (ph w) := by unfold rt rR; rw [ph_ab, ph_rtB]
theorem rtG_1 (u w : Int) : rtG u w = 1 ↔ rG (ph u) (ph w) := by
  unfold rtG rG
  rw [← ph_rtC, ← ph_sub, ← ph_add, ph_z, ph_z]
  by_cases c : (rtC u w - u) % pP = 0 ∨ (rtC u w + u) % pP = 0
  · rw [if_pos c]; exact ⟨fun _ => c, fun _ => rfl⟩
  · rw [if_neg c]; exact ⟨fun z => absurd z (by decide), fun z => absurd z c⟩
def byF (a : Fp) (k : Nat) : Nat := a.val / 256 ^ k % 256
theorem byN_F (x : Int) (k : Nat) : byN x k = byF (ph x) k := by
  unfold byN byF
  have h : (((ph x).val : Nat) : Int) = x % pP := ph_val x
  rw [← h]
  generalize (ph x).val = n
  rw [show ((n : Int) / 256 ^ k % 256) = ((n / 256 ^ k % 256 : Nat) : Int) by rw [Int.natCast_emod, Int.natCast_ediv, Int.natCast_pow]; rfl, Int.toNat_natCast]
theorem cF_of {X Y Z T S e f g f' q c : Fp} (hS : S = cS X Y Z T) (h1 : (od (S * T) ∧ e = Y * fI ∧ f = X * fI ∧ g = cAq Y Z * cR X Y Z * fE) ∨ (¬ od (S * T) ∧ e = X ∧ f = Y ∧ g = X * Y * cR X Y Z)) (h2 : (od (e * S) ∧ f' = -f) ∨ (¬ od (e * S) ∧ f' = f)) (hq : q = (Z - f') * g) (h3 : (od q ∧ c = -q) ∨ (¬ od q ∧ c = q)) : c = cF X Y Z T := by
  have hc : c = ab q := by
    unfold ab
    rcases h3 with ⟨a, z⟩ | ⟨a, z⟩
    · rw [if_pos a, z]
    · rw [if_neg a, z]
  rw [hc, hq]
  unfold cF
  rw [← hS]
  rcases h1 with ⟨a, z1, z2, z3⟩ | ⟨a, z1, z2, z3⟩
  · rw [if_pos a, if_pos a, if_pos a]
    dsimp only
    rw [← z3, ← z1, ← z2]
    rcases h2 with ⟨b, z⟩ | ⟨b, z⟩
    · rw [if_pos b, z]
    · rw [if_neg b, z]
  · rw [if_neg a, if_neg a, if_neg a]
    dsimp only
    rw [← z3, ← z1, ← z2]
    rcases h2 with ⟨b, z⟩ | ⟨b, z⟩
    · rw [if_pos b, z]
    · rw [if_neg b, z]
theorem od_of {x : Int} {a : Fp} (h : ph x = a) : od a ↔ (x % pP) % 2 = 1 := by rw [← h]; exact od_ph
def P4 (E : Nat → Int) (p : Nat) (X Y Z T : Int) : Prop := E p = X ∧ E (p + 1) = Y ∧ E (p + 2) = Z ∧ E (p + 3) = T
theorem P4.ke {E E' : Nat → Int} {ds : List Nat} {p : Nat} {X Y Z T : Int} (h : P4 E p X Y Z T) (k : KE ds E E') (n0 : p ∉ ds) (n1 : p + 1 ∉ ds) (n2 : p + 2 ∉ ds) (n3 : p + 3 ∉ ds) : P4 E' p X Y Z T := ⟨(k _ n0).trans h.1, (k _ n1).trans h.2.1, (k _ n2).trans h.2.2.1, (k _ n3).trans h.2.2.2⟩
def qP4 (M : List va_E) (v : Nat → Int32) (E : Nat → Int) (p : Nat) (X Y Z T : Int) (ds : List Nat) (M' : List va_E) : Prop := ∃ E', RE M' v E' ∧ P4 E' p X Y Z T ∧ KE ds E E' ∧ Kp RW M M'
set_option maxHeartbeats 8000000 in
theorem u_Mo_sum_32_32_32 {G : GX} {M : List va_E} {v : Nat → Int32} {E : Nat → Int} (hE : RE M v E) (e2 : E 2 = cD) {X Y Z T : Int} (ha : P4 E 32 X Y Z T) : CT G mi_Mo_sumPoint [.ref 373, .int (nI 32), .int (nI 32), .int (nI 32)] M (fun r M' => r = none ∧ qP4 M v E 32 (((X * Y) + (Y * X)) * ((Z * Z) - ((T * T) * cD))) (((Y * Y) + (X * X)) * ((Z * Z) + ((T * T) * cD))) (((Z * Z) - ((T * T) * cD)) * ((Z * Z) + ((T * T) * cD))) (((X * Y) + (Y * X)) * ((Y * Y) + (X * X))) [40, 41, 42, 43, 44, 45, 32, 33, 34, 35] M') := by
  refine CT.of (by decide) (Nat.le_of_ble_eq_true rfl) ?_
  show TT G mi_Mo_sumPoint 0 [(0, .ref 373), (1, .int (nI 32)), (2, .int (nI 32)), (3, .int (nI 32))] [] M 0 0 _
  refine T_aload_n (v := .ref 373) d_Mo_sumPoint_0 rfl (Or.inr ⟨_, rfl⟩) ?_
  refine T_bipush (v := nI 40) d_Mo_sumPoint_1 (by decide) ?_
  refine T_iload_n d_Mo_sumPoint_3 rfl ?_
  refine T_iload_n d_Mo_sumPoint_4 rfl ?_
  refine T_iconst (v := nI 1) d_Mo_sumPoint_5 (by decide) ?_
  refine N_iadd (a := 1) (b := 32) (c := 33) d_Mo_sumPoint_6 rfl ?_
  refine T_virtual (as := [.int (nI 40), .int (nI 32), .int (nI 33)]) (rest := []) (b := 373) d_Mo_sumPoint_7 rfl (jw_Mo_mul.jo (by decide)) lm_Mo_163 ji_Mo_mul js_Mo_mul hE.ob rfl rfl rfl (Nat.le_of_ble_eq_true rfl) (by decide) (by decide) (u_Mo_mul hE (by decide) (by decide) (by decide) ha.1 ha.2.1) (fun r M_1 hq => ?_)
  obtain ⟨rfl, E_1, hE_1, vr_1, ke_1, kp_1⟩ := hq
  refine T_eq (pc' := 10) (L' := [(0, .ref 373), (1, .int (nI 32)), (2, .int (nI 32)), (3, .int (nI 32))]) (st' := []) (M' := M_1) rfl rfl rfl rfl ?_
  refine T_aload_n (v := .ref 373) d_Mo_sumPoint_10 rfl (Or.inr ⟨_, rfl⟩) ?_
  refine T_bipush (v := nI 41) d_Mo_sumPoint_11 (by decide) ?_
  refine T_iload_n d_Mo_sumPoint_13 rfl ?_
  refine T_iconst (v := nI 1) d_Mo_sumPoint_14 (by decide) ?_
  refine N_iadd (a := 1) (b := 32) (c := 33) d_Mo_sumPoint_15 rfl ?_
  refine T_iload_n d_Mo_sumPoint_16 rfl ?_
  have r_2 := (ke_1 33 (by decide)).trans (ha.2.1)
  have r_3 := (ke_1 32 (by decide)).trans (ha.1)
  refine T_virtual (as := [.int (nI 41), .int (nI 33), .int (nI 32)]) (rest := []) (b := 373) d_Mo_sumPoint_17 rfl (jw_Mo_mul.jo (by decide)) lm_Mo_163 ji_Mo_mul js_Mo_mul hE_1.ob rfl rfl rfl (Nat.le_of_ble_eq_true rfl) (by decide) (by decide) (u_Mo_mul hE_1 (by decide) (by decide) (by decide) r_2 r_3) (fun r M_4 hq => ?_)
  obtain ⟨rfl, E_4, hE_4, vr_4, ke_4, kp_4⟩ := hq
  refine T_eq (pc' := 20) (L' := [(0, .ref 373), (1, .int (nI 32)), (2, .int (nI 32)), (3, .int (nI 32))]) (st' := []) (M' := M_4) rfl rfl rfl rfl ?_
  refine T_aload_n (v := .ref 373) d_Mo_sumPoint_20 rfl (Or.inr ⟨_, rfl⟩) ?_
  refine T_bipush (v := nI 40) d_Mo_sumPoint_21 (by decide) ?_
  refine T_bipush (v := nI 40) d_Mo_sumPoint_23 (by decide) ?_
  refine T_bipush (v := nI 41) d_Mo_sumPoint_25 (by decide) ?_
  have r_5 := (ke_4 40 (by decide)).trans (vr_1)
  refine T_virtual (as := [.int (nI 40), .int (nI 40), .int (nI 41)]) (rest := []) (b := 373) d_Mo_sumPoint_27 rfl (jw_Mo_add.jo (by decide)) lm_Mo_182 ji_Mo_add js_Mo_add hE_4.ob rfl rfl rfl (Nat.le_of_ble_eq_true rfl) (by decide) (by decide) (u_Mo_add hE_4 (by decide) (by decide) (by decide) r_5 vr_4) (fun r M_6 hq => ?_)
  obtain ⟨rfl, E_6, hE_6, vr_6, ke_6, kp_6⟩ := hq
  refine T_eq (pc' := 30) (L' := [(0, .ref 373), (1, .int (nI 32)), (2, .int (nI 32)), (3, .int (nI 32))]) (st' := []) (M' := M_6) rfl rfl rfl rfl ?_
  refine T_aload_n (v := .ref 373) d_Mo_sumPoint_30 rfl (Or.inr ⟨_, rfl⟩) ?_
  refine T_bipush (v := nI 41) d_Mo_sumPoint_31 (by decide) ?_
  refine T_iload_n d_Mo_sumPoint_33 rfl ?_
  refine T_iconst (v := nI 1) d_Mo_sumPoint_34 (by decide) ?_
  refine N_iadd (a := 1) (b := 32) (c := 33) d_Mo_sumPoint_35 rfl ?_
  refine T_iload_n d_Mo_sumPoint_36 rfl ?_
  refine T_iconst (v := nI 1) d_Mo_sumPoint_37 (by decide) ?_
  refine N_iadd (a := 1) (b := 32) (c := 33) d_Mo_sumPoint_38 rfl ?_
  have r_7 := (ke_6 33 (by decide)).trans ((ke_4 33 (by decide)).trans (r_2))
  refine T_virtual (as := [.int (nI 41), .int (nI 33), .int (nI 33)]) (rest := []) (b := 373) d_Mo_sumPoint_39 rfl (jw_Mo_mul.jo (by decide)) lm_Mo_163 ji_Mo_mul js_Mo_mul hE_6.ob rfl rfl rfl (Nat.le_of_ble_eq_true rfl) (by decide) (by decide) (u_Mo_mul hE_6 (by decide) (by decide) (by decide) r_7 r_7) (fun r M_8 hq => ?_)
  obtain ⟨rfl, E_8, hE_8, vr_8, ke_8, kp_8⟩ := hq
  refine T_eq (pc' := 42) (L' := [(0, .ref 373), (1, .int (nI 32)), (2, .int (nI 32)), (3, .int (nI 32))]) (st' := []) (M' := M_8) rfl rfl rfl rfl ?_
  refine T_aload_n (v := .ref 373) d_Mo_sumPoint_42 rfl (Or.inr ⟨_, rfl⟩) ?_
  refine T_bipush (v := nI 42) d_Mo_sumPoint_43 (by decide) ?_
  refine T_iload_n d_Mo_sumPoint_45 rfl ?_
  refine T_iload_n d_Mo_sumPoint_46 rfl ?_
  have r_9 := (ke_8 32 (by decide)).trans ((ke_6 32 (by decide)).trans ((ke_4 32 (by decide)).trans (r_3)))
  refine T_virtual (as := [.int (nI 42), .int (nI 32), .int (nI 32)]) (rest := []) (b := 373) d_Mo_sumPoint_47 rfl (jw_Mo_mul.jo (by decide)) lm_Mo_163 ji_Mo_mul js_Mo_mul hE_8.ob rfl rfl rfl (Nat.le_of_ble_eq_true rfl) (by decide) (by decide) (u_Mo_mul hE_8 (by decide) (by decide) (by decide) r_9 r_9) (fun r M_10 hq => ?_)
  obtain ⟨rfl, E_10, hE_10, vr_10, ke_10, kp_10⟩ := hq
  refine T_eq (pc' := 50) (L' := [(0, .ref 373), (1, .int (nI 32)), (2, .int (nI 32)), (3, .int (nI 32))]) (st' := []) (M' := M_10) rfl rfl rfl rfl ?_
  refine T_aload_n (v := .ref 373) d_Mo_sumPoint_50 rfl (Or.inr ⟨_, rfl⟩) ?_
  refine T_bipush (v := nI 41) d_Mo_sumPoint_51 (by decide) ?_
  refine T_bipush (v := nI 41) d_Mo_sumPoint_53 (by decide) ?_
  refine T_bipush (v := nI 42) d_Mo_sumPoint_55 (by decide) ?_
  have r_11 := (ke_10 41 (by decide)).trans (vr_8)
  refine T_virtual (as := [.int (nI 41), .int (nI 41), .int (nI 42)]) (rest := []) (b := 373) d_Mo_sumPoint_57 rfl (jw_Mo_add.jo (by decide)) lm_Mo_182 ji_Mo_add js_Mo_add hE_10.ob rfl rfl rfl (Nat.le_of_ble_eq_true rfl) (by decide) (by decide) (u_Mo_add hE_10 (by decide) (by decide) (by decide) r_11 vr_10) (fun r M_12 hq => ?_)
  obtain ⟨rfl, E_12, hE_12, vr_12, ke_12, kp_12⟩ := hq
  refine T_eq (pc' := 60) (L' := [(0, .ref 373), (1, .int (nI 32)), (2, .int (nI 32)), (3, .int (nI 32))]) (st' := []) (M' := M_12) rfl rfl rfl rfl ?_
  refine T_aload_n (v := .ref 373) d_Mo_sumPoint_60 rfl (Or.inr ⟨_, rfl⟩) ?_
  refine T_bipush (v := nI 42) d_Mo_sumPoint_61 (by decide) ?_
  refine T_iload_n d_Mo_sumPoint_63 rfl ?_
  refine T_iconst (v := nI 3) d_Mo_sumPoint_64 (by decide) ?_
  refine N_iadd (a := 3) (b := 32) (c := 35) d_Mo_sumPoint_65 rfl ?_
  refine T_iload_n d_Mo_sumPoint_66 rfl ?_
  refine T_iconst (v := nI 3) d_Mo_sumPoint_67 (by decide) ?_
  refine N_iadd (a := 3) (b := 32) (c := 35) d_Mo_sumPoint_68 rfl ?_
  have r_13 := (ke_12 35 (by decide)).trans ((ke_10 35 (by decide)).trans ((ke_8 35 (by decide)).trans ((ke_6 35 (by decide)).trans ((ke_4 35 (by decide)).trans ((ke_1 35 (by decide)).trans (ha.2.2.2))))))
  refine T_virtual (as := [.int (nI 42), .int (nI 35), .int (nI 35)]) (rest := []) (b := 373) d_Mo_sumPoint_69 rfl (jw_Mo_mul.jo (by decide)) lm_Mo_163 ji_Mo_mul js_Mo_mul hE_12.ob rfl rfl rfl (Nat.le_of_ble_eq_true rfl) (by decide) (by decide) (u_Mo_mul hE_12 (by decide) (by decide) (by decide) r_13 r_13) (fun r M_14 hq => ?_)
  obtain ⟨rfl, E_14, hE_14, vr_14, ke_14, kp_14⟩ := hq
  refine T_eq (pc' := 72) (L' := [(0, .ref 373), (1, .int (nI 32)), (2, .int (nI 32)), (3, .int (nI 32))]) (st' := []) (M' := M_14) rfl rfl rfl rfl ?_
  refine T_aload_n (v := .ref 373) d_Mo_sumPoint_72 rfl (Or.inr ⟨_, rfl⟩) ?_
  refine T_bipush (v := nI 42) d_Mo_sumPoint_73 (by decide) ?_
  refine T_bipush (v := nI 42) d_Mo_sumPoint_75 (by decide) ?_
  refine T_iconst (v := nI 2) d_Mo_sumPoint_77 (by decide) ?_
  have r_15 := (ke_14 2 (by decide)).trans ((ke_12 2 (by decide)).trans ((ke_10 2 (by decide)).trans ((ke_8 2 (by decide)).trans ((ke_6 2 (by decide)).trans ((ke_4 2 (by decide)).trans ((ke_1 2 (by decide)).trans (e2)))))))
  refine T_virtual (as := [.int (nI 42), .int (nI 42), .int (nI 2)]) (rest := []) (b := 373) d_Mo_sumPoint_78 rfl (jw_Mo_mul.jo (by decide)) lm_Mo_163 ji_Mo_mul js_Mo_mul hE_14.ob rfl rfl rfl (Nat.le_of_ble_eq_true rfl) (by decide) (by decide) (u_Mo_mul hE_14 (by decide) (by decide) (by decide) vr_14 r_15) (fun r M_16 hq => ?_)
  obtain ⟨rfl, E_16, hE_16, vr_16, ke_16, kp_16⟩ := hq
  refine T_eq (pc' := 81) (L' := [(0, .ref 373), (1, .int (nI 32)), (2, .int (nI 32)), (3, .int (nI 32))]) (st' := []) (M' := M_16) rfl rfl rfl rfl ?_
  refine T_aload_n (v := .ref 373) d_Mo_sumPoint_81 rfl (Or.inr ⟨_, rfl⟩) ?_
  refine T_bipush (v := nI 43) d_Mo_sumPoint_82 (by decide) ?_
  refine T_iload_n d_Mo_sumPoint_84 rfl ?_
  refine T_iconst (v := nI 2) d_Mo_sumPoint_85 (by decide) ?_
  refine N_iadd (a := 2) (b := 32) (c := 34) d_Mo_sumPoint_86 rfl ?_
  refine T_iload_n d_Mo_sumPoint_87 rfl ?_
  refine T_iconst (v := nI 2) d_Mo_sumPoint_88 (by decide) ?_
  refine N_iadd (a := 2) (b := 32) (c := 34) d_Mo_sumPoint_89 rfl ?_
  have r_17 := (ke_16 34 (by decide)).trans ((ke_14 34 (by decide)).trans ((ke_12 34 (by decide)).trans ((ke_10 34 (by decide)).trans ((ke_8 34 (by decide)).trans ((ke_6 34 (by decide)).trans ((ke_4 34 (by decide)).trans ((ke_1 34 (by decide)).trans (ha.2.2.1))))))))
  refine T_virtual (as := [.int (nI 43), .int (nI 34), .int (nI 34)]) (rest := []) (b := 373) d_Mo_sumPoint_90 rfl (jw_Mo_mul.jo (by decide)) lm_Mo_163 ji_Mo_mul js_Mo_mul hE_16.ob rfl rfl rfl (Nat.le_of_ble_eq_true rfl) (by decide) (by decide) (u_Mo_mul hE_16 (by decide) (by decide) (by decide) r_17 r_17) (fun r M_18 hq => ?_)
  obtain ⟨rfl, E_18, hE_18, vr_18, ke_18, kp_18⟩ := hq
  refine T_eq (pc' := 93) (L' := [(0, .ref 373), (1, .int (nI 32)), (2, .int (nI 32)), (3, .int (nI 32))]) (st' := []) (M' := M_18) rfl rfl rfl rfl ?_
  refine T_aload_n (v := .ref 373) d_Mo_sumPoint_93 rfl (Or.inr ⟨_, rfl⟩) ?_
  refine T_bipush (v := nI 44) d_Mo_sumPoint_94 (by decide) ?_
  refine T_bipush (v := nI 43) d_Mo_sumPoint_96 (by decide) ?_
  refine T_bipush (v := nI 42) d_Mo_sumPoint_98 (by decide) ?_
  have r_19 := (ke_18 42 (by decide)).trans (vr_16)
  refine T_virtual (as := [.int (nI 44), .int (nI 43), .int (nI 42)]) (rest := []) (b := 373) d_Mo_sumPoint_100 rfl (jw_Mo_sub.jo (by decide)) lm_Mo_152 ji_Mo_sub js_Mo_sub hE_18.ob rfl rfl rfl (Nat.le_of_ble_eq_true rfl) (by decide) (by decide) (u_Mo_sub hE_18 (by decide) (by decide) (by decide) vr_18 r_19) (fun r M_20 hq => ?_)
  obtain ⟨rfl, E_20, hE_20, vr_20, ke_20, kp_20⟩ := hq
  refine T_eq (pc' := 103) (L' := [(0, .ref 373), (1, .int (nI 32)), (2, .int (nI 32)), (3, .int (nI 32))]) (st' := []) (M' := M_20) rfl rfl rfl rfl ?_
  refine T_aload_n (v := .ref 373) d_Mo_sumPoint_103 rfl (Or.inr ⟨_, rfl⟩) ?_
  refine T_bipush (v := nI 45) d_Mo_sumPoint_104 (by decide) ?_
  refine T_bipush (v := nI 43) d_Mo_sumPoint_106 (by decide) ?_
  refine T_bipush (v := nI 42) d_Mo_sumPoint_108 (by decide) ?_
  have r_21 := (ke_20 43 (by decide)).trans (vr_18)
  have r_22 := (ke_20 42 (by decide)).trans (r_19)
  refine T_virtual (as := [.int (nI 45), .int (nI 43), .int (nI 42)]) (rest := []) (b := 373) d_Mo_sumPoint_110 rfl (jw_Mo_add.jo (by decide)) lm_Mo_182 ji_Mo_add js_Mo_add hE_20.ob rfl rfl rfl (Nat.le_of_ble_eq_true rfl) (by decide) (by decide) (u_Mo_add hE_20 (by decide) (by decide) (by decide) r_21 r_22) (fun r M_23 hq => ?_)
  obtain ⟨rfl, E_23, hE_23, vr_23, ke_23, kp_23⟩ := hq
  refine T_eq (pc' := 113) (L' := [(0, .ref 373), (1, .int (nI 32)), (2, .int (nI 32)), (3, .int (nI 32))]) (st' := []) (M' := M_23) rfl rfl rfl rfl ?_
  refine T_aload_n (v := .ref 373) d_Mo_sumPoint_113 rfl (Or.inr ⟨_, rfl⟩) ?_
  refine T_iload_n d_Mo_sumPoint_114 rfl ?_
  refine T_bipush (v := nI 40) d_Mo_sumPoint_115 (by decide) ?_
  refine T_bipush (v := nI 44) d_Mo_sumPoint_117 (by decide) ?_
  have r_24 := (ke_23 40 (by decide)).trans ((ke_20 40 (by decide)).trans ((ke_18 40 (by decide)).trans ((ke_16 40 (by decide)).trans ((ke_14 40 (by decide)).trans ((ke_12 40 (by decide)).trans ((ke_10 40 (by decide)).trans ((ke_8 40 (by decide)).trans (vr_6))))))))
  have r_25 := (ke_23 44 (by decide)).trans (vr_20)
  refine T_virtual (as := [.int (nI 32), .int (nI 40), .int (nI 44)]) (rest := []) (b := 373) d_Mo_sumPoint_119 rfl (jw_Mo_mul.jo (by decide)) lm_Mo_163 ji_Mo_mul js_Mo_mul hE_23.ob rfl rfl rfl (Nat.le_of_ble_eq_true rfl) (by decide) (by decide) (u_Mo_mul hE_23 (by decide) (by decide) (by decide) r_24 r_25) (fun r M_26 hq => ?_)
  obtain ⟨rfl, E_26, hE_26, vr_26, ke_26, kp_26⟩ := hq
  refine T_eq (pc' := 122) (L' := [(0, .ref 373), (1, .int (nI 32)), (2, .int (nI 32)), (3, .int (nI 32))]) (st' := []) (M' := M_26) rfl rfl rfl rfl ?_
  refine T_aload_n (v := .ref 373) d_Mo_sumPoint_122 rfl (Or.inr ⟨_, rfl⟩) ?_
  refine T_iload_n d_Mo_sumPoint_123 rfl ?_
  refine T_iconst (v := nI 1) d_Mo_sumPoint_124 (by decide) ?_
  refine N_iadd (a := 1) (b := 32) (c := 33) d_Mo_sumPoint_125 rfl ?_
  refine T_bipush (v := nI 41) d_Mo_sumPoint_126 (by decide) ?_
  refine T_bipush (v := nI 45) d_Mo_sumPoint_128 (by decide) ?_
  have r_27 := (ke_26 41 (by decide)).trans ((ke_23 41 (by decide)).trans ((ke_20 41 (by decide)).trans ((ke_18 41 (by decide)).trans ((ke_16 41 (by decide)).trans ((ke_14 41 (by decide)).trans (vr_12))))))
  have r_28 := (ke_26 45 (by decide)).trans (vr_23)
  refine T_virtual (as := [.int (nI 33), .int (nI 41), .int (nI 45)]) (rest := []) (b := 373) d_Mo_sumPoint_130 rfl (jw_Mo_mul.jo (by decide)) lm_Mo_163 ji_Mo_mul js_Mo_mul hE_26.ob rfl rfl rfl (Nat.le_of_ble_eq_true rfl) (by decide) (by decide) (u_Mo_mul hE_26 (by decide) (by decide) (by decide) r_27 r_28) (fun r M_29 hq => ?_)
  obtain ⟨rfl, E_29, hE_29, vr_29, ke_29, kp_29⟩ := hq
  refine T_eq (pc' := 133) (L' := [(0, .ref 373), (1, .int (nI 32)), (2, .int (nI 32)), (3, .int (nI 32))]) (st' := []) (M' := M_29) rfl rfl rfl rfl ?_
  refine T_aload_n (v := .ref 373) d_Mo_sumPoint_133 rfl (Or.inr ⟨_, rfl⟩) ?_
  refine T_iload_n d_Mo_sumPoint_134 rfl ?_
  refine T_iconst (v := nI 2) d_Mo_sumPoint_135 (by decide) ?_
  refine N_iadd (a := 2) (b := 32) (c := 34) d_Mo_sumPoint_136 rfl ?_
  refine T_bipush (v := nI 44) d_Mo_sumPoint_137 (by decide) ?_
  refine T_bipush (v := nI 45) d_Mo_sumPoint_139 (by decide) ?_
  have r_30 := (ke_29 44 (by decide)).trans ((ke_26 44 (by decide)).trans (r_25))
  have r_31 := (ke_29 45 (by decide)).trans (r_28)
  refine T_virtual (as := [.int (nI 34), .int (nI 44), .int (nI 45)]) (rest := []) (b := 373) d_Mo_sumPoint_141 rfl (jw_Mo_mul.jo (by decide)) lm_Mo_163 ji_Mo_mul js_Mo_mul hE_29.ob rfl rfl rfl (Nat.le_of_ble_eq_true rfl) (by decide) (by decide) (u_Mo_mul hE_29 (by decide) (by decide) (by decide) r_30 r_31) (fun r M_32 hq => ?_)
  obtain ⟨rfl, E_32, hE_32, vr_32, ke_32, kp_32⟩ := hq
  refine T_eq (pc' := 144) (L' := [(0, .ref 373), (1, .int (nI 32)), (2, .int (nI 32)), (3, .int (nI 32))]) (st' := []) (M' := M_32) rfl rfl rfl rfl ?_
  refine T_aload_n (v := .ref 373) d_Mo_sumPoint_144 rfl (Or.inr ⟨_, rfl⟩) ?_
  refine T_iload_n d_Mo_sumPoint_145 rfl ?_
  refine T_iconst (v := nI 3) d_Mo_sumPoint_146 (by decide) ?_
  refine N_iadd (a := 3) (b := 32) (c := 35) d_Mo_sumPoint_147 rfl ?_
  refine T_bipush (v := nI 40) d_Mo_sumPoint_148 (by decide) ?_
  refine T_bipush (v := nI 41) d_Mo_sumPoint_150 (by decide) ?_
  have r_33 := (ke_32 40 (by decide)).trans ((ke_29 40 (by decide)).trans ((ke_26 40 (by decide)).trans (r_24)))
  have r_34 := (ke_32 41 (by decide)).trans ((ke_29 41 (by decide)).trans (r_27))
  refine T_virtual (as := [.int (nI 35), .int (nI 40), .int (nI 41)]) (rest := []) (b := 373) d_Mo_sumPoint_152 rfl (jw_Mo_mul.jo (by decide)) lm_Mo_163 ji_Mo_mul js_Mo_mul hE_32.ob rfl rfl rfl (Nat.le_of_ble_eq_true rfl) (by decide) (by decide) (u_Mo_mul hE_32 (by decide) (by decide) (by decide) r_33 r_34) (fun r M_35 hq => ?_)
  obtain ⟨rfl, E_35, hE_35, vr_35, ke_35, kp_35⟩ := hq
  refine T_eq (pc' := 155) (L' := [(0, .ref 373), (1, .int (nI 32)), (2, .int (nI 32)), (3, .int (nI 32))]) (st' := []) (M' := M_35) rfl rfl rfl rfl ?_
  have r_36 := (ke_35 32 (by decide)).trans ((ke_32 32 (by decide)).trans ((ke_29 32 (by decide)).trans (vr_26)))
  have r_37 := (ke_35 33 (by decide)).trans ((ke_32 33 (by decide)).trans (vr_29))
  have r_38 := (ke_35 34 (by decide)).trans (vr_32)
  exact T_vret d_Mo_sumPoint_155 rfl (by decide) (by decide) ⟨rfl, E_35, hE_35, ⟨r_36, r_37, r_38, vr_35⟩, (KE.tr (KE.tr (KE.tr (KE.tr (KE.tr (KE.tr (KE.tr (KE.tr (KE.tr (KE.tr (KE.tr (KE.tr (KE.tr (KE.tr (KE.tr (KE.rf : KE [40, 41, 42, 43, 44, 45, 32, 33, 34, 35] E E) (KE.mono ke_1 (by decide))) (KE.mono ke_4 (by decide))) (KE.mono ke_6 (by decide))) (KE.mono ke_8 (by decide))) (KE.mono ke_10 (by decide))) (KE.mono ke_12 (by decide))) (KE.mono ke_14 (by decide))) (KE.mono ke_16 (by decide))) (KE.mono ke_18 (by decide))) (KE.mono ke_20 (by decide))) (KE.mono ke_23 (by decide))) (KE.mono ke_26 (by decide))) (KE.mono ke_29 (by decide))) (KE.mono ke_32 (by decide))) (KE.mono ke_35 (by decide))), (Kp.tr (Kp.tr (Kp.tr (Kp.tr (Kp.tr (Kp.tr (Kp.tr (Kp.tr (Kp.tr (Kp.tr (Kp.tr (Kp.tr (Kp.tr (Kp.tr (Kp.tr (Kp.rf : Kp [390, 391, 392, 393, 394] M M) (Kp.mono kp_1 (by decide))) (Kp.mono kp_4 (by decide))) (Kp.mono kp_6 (by decide))) (Kp.mono kp_8 (by decide))) (Kp.mono kp_10 (by decide))) (Kp.mono kp_12 (by decide))) (Kp.mono kp_14 (by decide))) (Kp.mono kp_16 (by decide))) (Kp.mono kp_18 (by decide))) (Kp.mono kp_20 (by decide))) (Kp.mono kp_23 (by decide))) (Kp.mono kp_26 (by decide))) (Kp.mono kp_29 (by decide))) (Kp.mono kp_32 (by decide))) (Kp.mono kp_35 (by decide)))⟩
set_option maxHeartbeats 8000000 in
theorem u_Mo_sum_32_32_36 {G : GX} {M : List va_E} {v : Nat → Int32} {E : Nat → Int} (hE : RE M v E) (e2 : E 2 = cD) {X Y Z T X' Y' Z' T' : Int} (ha : P4 E 32 X Y Z T) (hb : P4 E 36 X' Y' Z' T') : CT G mi_Mo_sumPoint [.ref 373, .int (nI 32), .int (nI 32), .int (nI 36)] M (fun r M' => r = none ∧ qP4 M v E 32 (((X * Y') + (Y * X')) * ((Z * Z') - ((T * T') * cD))) (((Y * Y') + (X * X')) * ((Z * Z') + ((T * T') * cD))) (((Z * Z') - ((T * T') * cD)) * ((Z * Z') + ((T * T') * cD))) (((X * Y') + (Y * X')) * ((Y * Y') + (X * X'))) [40, 41, 42, 43, 44, 45, 32, 33, 34, 35] M') := by
  refine CT.of (by decide) (Nat.le_of_ble_eq_true rfl) ?_
  show TT G mi_Mo_sumPoint 0 [(0, .ref 373), (1, .int (nI 32)), (2, .int (nI 32)), (3, .int (nI 36))] [] M 0 0 _
  refine T_aload_n (v := .ref 373) d_Mo_sumPoint_0 rfl (Or.inr ⟨_, rfl⟩) ?_
  refine T_bipush (v := nI 40) d_Mo_sumPoint_1 (by decide) ?_
  refine T_iload_n d_Mo_sumPoint_3 rfl ?_
  refine T_iload_n d_Mo_sumPoint_4 rfl ?_
  refine T_iconst (v := nI 1) d_Mo_sumPoint_5 (by decide) ?_
  refine N_iadd (a := 1) (b := 36) (c := 37) d_Mo_sumPoint_6 rfl ?_
  refine T_virtual (as := [.int (nI 40), .int (nI 32), .int (nI 37)]) (rest := []) (b := 373) d_Mo_sumPoint_7 rfl (jw_Mo_mul.jo (by decide)) lm_Mo_163 ji_Mo_mul js_Mo_mul hE.ob rfl rfl rfl (Nat.le_of_ble_eq_true rfl) (by decide) (by decide) (u_Mo_mul hE (by decide) (by decide) (by decide) ha.1 hb.2.1) (fun r M_1 hq => ?_)
  obtain ⟨rfl, E_1, hE_1, vr_1, ke_1, kp_1⟩ := hq
  refine T_eq (pc' := 10) (L' := [(0, .ref 373), (1, .int (nI 32)), (2, .int (nI 32)), (3, .int (nI 36))]) (st' := []) (M' := M_1) rfl rfl rfl rfl ?_
  refine T_aload_n (v := .ref 373) d_Mo_sumPoint_10 rfl (Or.inr ⟨_, rfl⟩) ?_
  refine T_bipush (v := nI 41) d_Mo_sumPoint_11 (by decide) ?_
  refine T_iload_n d_Mo_sumPoint_13 rfl ?_
  refine T_iconst (v := nI 1) d_Mo_sumPoint_14 (by decide) ?_
  refine N_iadd (a := 1) (b := 32) (c := 33) d_Mo_sumPoint_15 rfl ?_
  refine T_iload_n d_Mo_sumPoint_16 rfl ?_
  have r_2 := (ke_1 33 (by decide)).trans (ha.2.1)
  have r_3 := (ke_1 36 (by decide)).trans (hb.1)
  refine T_virtual (as := [.int (nI 41), .int (nI 33), .int (nI 36)]) (rest := []) (b := 373) d_Mo_sumPoint_17 rfl (jw_Mo_mul.jo (by decide)) lm_Mo_163 ji_Mo_mul js_Mo_mul hE_1.ob rfl rfl rfl (Nat.le_of_ble_eq_true rfl) (by decide) (by decide) (u_Mo_mul hE_1 (by decide) (by decide) (by decide) r_2 r_3) (fun r M_4 hq => ?_)
  obtain ⟨rfl, E_4, hE_4, vr_4, ke_4, kp_4⟩ := hq
  refine T_eq (pc' := 20) (L' := [(0, .ref 373), (1, .int (nI 32)), (2, .int (nI 32)), (3, .int (nI 36))]) (st' := []) (M' := M_4) rfl rfl rfl rfl ?_
  refine T_aload_n (v := .ref 373) d_Mo_sumPoint_20 rfl (Or.inr ⟨_, rfl⟩) ?_
  refine T_bipush (v := nI 40) d_Mo_sumPoint_21 (by decide) ?_
  refine T_bipush (v := nI 40) d_Mo_sumPoint_23 (by decide) ?_
  refine T_bipush (v := nI 41) d_Mo_sumPoint_25 (by decide) ?_
  have r_5 := (ke_4 40 (by decide)).trans (vr_1)
  refine T_virtual (as := [.int (nI 40), .int (nI 40), .int (nI 41)]) (rest := []) (b := 373) d_Mo_sumPoint_27 rfl (jw_Mo_add.jo (by decide)) lm_Mo_182 ji_Mo_add js_Mo_add hE_4.ob rfl rfl rfl (Nat.le_of_ble_eq_true rfl) (by decide) (by decide) (u_Mo_add hE_4 (by decide) (by decide) (by decide) r_5 vr_4) (fun r M_6 hq => ?_)
  obtain ⟨rfl, E_6, hE_6, vr_6, ke_6, kp_6⟩ := hq
  refine T_eq (pc' := 30) (L' := [(0, .ref 373), (1, .int (nI 32)), (2, .int (nI 32)), (3, .int (nI 36))]) (st' := []) (M' := M_6) rfl rfl rfl rfl ?_
  refine T_aload_n (v := .ref 373) d_Mo_sumPoint_30 rfl (Or.inr ⟨_, rfl⟩) ?_
  refine T_bipush (v := nI 41) d_Mo_sumPoint_31 (by decide) ?_
  refine T_iload_n d_Mo_sumPoint_33 rfl ?_
  refine T_iconst (v := nI 1) d_Mo_sumPoint_34 (by decide) ?_
  refine N_iadd (a := 1) (b := 32) (c := 33) d_Mo_sumPoint_35 rfl ?_
  refine T_iload_n d_Mo_sumPoint_36 rfl ?_
  refine T_iconst (v := nI 1) d_Mo_sumPoint_37 (by decide) ?_
  refine N_iadd (a := 1) (b := 36) (c := 37) d_Mo_sumPoint_38 rfl ?_
  have r_7 := (ke_6 33 (by decide)).trans ((ke_4 33 (by decide)).trans (r_2))
  have r_8 := (ke_6 37 (by decide)).trans ((ke_4 37 (by decide)).trans ((ke_1 37 (by decide)).trans (hb.2.1)))
  refine T_virtual (as := [.int (nI 41), .int (nI 33), .int (nI 37)]) (rest := []) (b := 373) d_Mo_sumPoint_39 rfl (jw_Mo_mul.jo (by decide)) lm_Mo_163 ji_Mo_mul js_Mo_mul hE_6.ob rfl rfl rfl (Nat.le_of_ble_eq_true rfl) (by decide) (by decide) (u_Mo_mul hE_6 (by decide) (by decide) (by decide) r_7 r_8) (fun r M_9 hq => ?_)
  obtain ⟨rfl, E_9, hE_9, vr_9, ke_9, kp_9⟩ := hq
  refine T_eq (pc' := 42) (L' := [(0, .ref 373), (1, .int (nI 32)), (2, .int (nI 32)), (3, .int (nI 36))]) (st' := []) (M' := M_9) rfl rfl rfl rfl ?_
  refine T_aload_n (v := .ref 373) d_Mo_sumPoint_42 rfl (Or.inr ⟨_, rfl⟩) ?_
  refine T_bipush (v := nI 42) d_Mo_sumPoint_43 (by decide) ?_
  refine T_iload_n d_Mo_sumPoint_45 rfl ?_
  refine T_iload_n d_Mo_sumPoint_46 rfl ?_
  have r_10 := (ke_9 32 (by decide)).trans ((ke_6 32 (by decide)).trans ((ke_4 32 (by decide)).trans ((ke_1 32 (by decide)).trans (ha.1))))
  have r_11 := (ke_9 36 (by decide)).trans ((ke_6 36 (by decide)).trans ((ke_4 36 (by decide)).trans (r_3)))
  refine T_virtual (as := [.int (nI 42), .int (nI 32), .int (nI 36)]) (rest := []) (b := 373) d_Mo_sumPoint_47 rfl (jw_Mo_mul.jo (by decide)) lm_Mo_163 ji_Mo_mul js_Mo_mul hE_9.ob rfl rfl rfl (Nat.le_of_ble_eq_true rfl) (by decide) (by decide) (u_Mo_mul hE_9 (by decide) (by decide) (by decide) r_10 r_11) (fun r M_12 hq => ?_)
  obtain ⟨rfl, E_12, hE_12, vr_12, ke_12, kp_12⟩ := hq
  refine T_eq (pc' := 50) (L' := [(0, .ref 373), (1, .int (nI 32)), (2, .int (nI 32)), (3, .int (nI 36))]) (st' := []) (M' := M_12) rfl rfl rfl rfl ?_
  refine T_aload_n (v := .ref 373) d_Mo_sumPoint_50 rfl (Or.inr ⟨_, rfl⟩) ?_
  refine T_bipush (v := nI 41) d_Mo_sumPoint_51 (by decide) ?_
  refine T_bipush (v := nI 41) d_Mo_sumPoint_53 (by decide) ?_
  refine T_bipush (v := nI 42) d_Mo_sumPoint_55 (by decide) ?_
  have r_13 := (ke_12 41 (by decide)).trans (vr_9)
  refine T_virtual (as := [.int (nI 41), .int (nI 41), .int (nI 42)]) (rest := []) (b := 373) d_Mo_sumPoint_57 rfl (jw_Mo_add.jo (by decide)) lm_Mo_182 ji_Mo_add js_Mo_add hE_12.ob rfl rfl rfl (Nat.le_of_ble_eq_true rfl) (by decide) (by decide) (u_Mo_add hE_12 (by decide) (by decide) (by decide) r_13 vr_12) (fun r M_14 hq => ?_)
  obtain ⟨rfl, E_14, hE_14, vr_14, ke_14, kp_14⟩ := hq
  refine T_eq (pc' := 60) (L' := [(0, .ref 373), (1, .int (nI 32)), (2, .int (nI 32)), (3, .int (nI 36))]) (st' := []) (M' := M_14) rfl rfl rfl rfl ?_
  refine T_aload_n (v := .ref 373) d_Mo_sumPoint_60 rfl (Or.inr ⟨_, rfl⟩) ?_
  refine T_bipush (v := nI 42) d_Mo_sumPoint_61 (by decide) ?_
  refine T_iload_n d_Mo_sumPoint_63 rfl ?_
  refine T_iconst (v := nI 3) d_Mo_sumPoint_64 (by decide) ?_
  refine N_iadd (a := 3) (b := 32) (c := 35) d_Mo_sumPoint_65 rfl ?_
  refine T_iload_n d_Mo_sumPoint_66 rfl ?_
  refine T_iconst (v := nI 3) d_Mo_sumPoint_67 (by decide) ?_
  refine N_iadd (a := 3) (b := 36) (c := 39) d_Mo_sumPoint_68 rfl ?_
  have r_15 := (ke_14 35 (by decide)).trans ((ke_12 35 (by decide)).trans ((ke_9 35 (by decide)).trans ((ke_6 35 (by decide)).trans ((ke_4 35 (by decide)).trans ((ke_1 35 (by decide)).trans (ha.2.2.2))))))
  have r_16 := (ke_14 39 (by decide)).trans ((ke_12 39 (by decide)).trans ((ke_9 39 (by decide)).trans ((ke_6 39 (by decide)).trans ((ke_4 39 (by decide)).trans ((ke_1 39 (by decide)).trans (hb.2.2.2))))))
  refine T_virtual (as := [.int (nI 42), .int (nI 35), .int (nI 39)]) (rest := []) (b := 373) d_Mo_sumPoint_69 rfl (jw_Mo_mul.jo (by decide)) lm_Mo_163 ji_Mo_mul js_Mo_mul hE_14.ob rfl rfl rfl (Nat.le_of_ble_eq_true rfl) (by decide) (by decide) (u_Mo_mul hE_14 (by decide) (by decide) (by decide) r_15 r_16) (fun r M_17 hq => ?_)
  obtain ⟨rfl, E_17, hE_17, vr_17, ke_17, kp_17⟩ := hq
  refine T_eq (pc' := 72) (L' := [(0, .ref 373), (1, .int (nI 32)), (2, .int (nI 32)), (3, .int (nI 36))]) (st' := []) (M' := M_17) rfl rfl rfl rfl ?_
  refine T_aload_n (v := .ref 373) d_Mo_sumPoint_72 rfl (Or.inr ⟨_, rfl⟩) ?_
  refine T_bipush (v := nI 42) d_Mo_sumPoint_73 (by decide) ?_
  refine T_bipush (v := nI 42) d_Mo_sumPoint_75 (by decide) ?_
  refine T_iconst (v := nI 2) d_Mo_sumPoint_77 (by decide) ?_
  have r_18 := (ke_17 2 (by decide)).trans ((ke_14 2 (by decide)).trans ((ke_12 2 (by decide)).trans ((ke_9 2 (by decide)).trans ((ke_6 2 (by decide)).trans ((ke_4 2 (by decide)).trans ((ke_1 2 (by decide)).trans (e2)))))))
  refine T_virtual (as := [.int (nI 42), .int (nI 42), .int (nI 2)]) (rest := []) (b := 373) d_Mo_sumPoint_78 rfl (jw_Mo_mul.jo (by decide)) lm_Mo_163 ji_Mo_mul js_Mo_mul hE_17.ob rfl rfl rfl (Nat.le_of_ble_eq_true rfl) (by decide) (by decide) (u_Mo_mul hE_17 (by decide) (by decide) (by decide) vr_17 r_18) (fun r M_19 hq => ?_)
  obtain ⟨rfl, E_19, hE_19, vr_19, ke_19, kp_19⟩ := hq
  refine T_eq (pc' := 81) (L' := [(0, .ref 373), (1, .int (nI 32)), (2, .int (nI 32)), (3, .int (nI 36))]) (st' := []) (M' := M_19) rfl rfl rfl rfl ?_
  refine T_aload_n (v := .ref 373) d_Mo_sumPoint_81 rfl (Or.inr ⟨_, rfl⟩) ?_
  refine T_bipush (v := nI 43) d_Mo_sumPoint_82 (by decide) ?_
  refine T_iload_n d_Mo_sumPoint_84 rfl ?_
  refine T_iconst (v := nI 2) d_Mo_sumPoint_85 (by decide) ?_
  refine N_iadd (a := 2) (b := 32) (c := 34) d_Mo_sumPoint_86 rfl ?_
  refine T_iload_n d_Mo_sumPoint_87 rfl ?_
  refine T_iconst (v := nI 2) d_Mo_sumPoint_88 (by decide) ?_
  refine N_iadd (a := 2) (b := 36) (c := 38) d_Mo_sumPoint_89 rfl ?_
  have r_20 := (ke_19 34 (by decide)).trans ((ke_17 34 (by decide)).trans ((ke_14 34 (by decide)).trans ((ke_12 34 (by decide)).trans ((ke_9 34 (by decide)).trans ((ke_6 34 (by decide)).trans ((ke_4 34 (by decide)).trans ((ke_1 34 (by decide)).trans (ha.2.2.1))))))))
  have r_21 := (ke_19 38 (by decide)).trans ((ke_17 38 (by decide)).trans ((ke_14 38 (by decide)).trans ((ke_12 38 (by decide)).trans ((ke_9 38 (by decide)).trans ((ke_6 38 (by decide)).trans ((ke_4 38 (by decide)).trans ((ke_1 38 (by decide)).trans (hb.2.2.1))))))))
  refine T_virtual (as := [.int (nI 43), .int (nI 34), .int (nI 38)]) (rest := []) (b := 373) d_Mo_sumPoint_90 rfl (jw_Mo_mul.jo (by decide)) lm_Mo_163 ji_Mo_mul js_Mo_mul hE_19.ob rfl rfl rfl (Nat.le_of_ble_eq_true rfl) (by decide) (by decide) (u_Mo_mul hE_19 (by decide) (by decide) (by decide) r_20 r_21) (fun r M_22 hq => ?_)
  obtain ⟨rfl, E_22, hE_22, vr_22, ke_22, kp_22⟩ := hq
  refine T_eq (pc' := 93) (L' := [(0, .ref 373), (1, .int (nI 32)), (2, .int (nI 32)), (3, .int (nI 36))]) (st' := []) (M' := M_22) rfl rfl rfl rfl ?_
  refine T_aload_n (v := .ref 373) d_Mo_sumPoint_93 rfl (Or.inr ⟨_, rfl⟩) ?_
  refine T_bipush (v := nI 44) d_Mo_sumPoint_94 (by decide) ?_
  refine T_bipush (v := nI 43) d_Mo_sumPoint_96 (by decide) ?_
  refine T_bipush (v := nI 42) d_Mo_sumPoint_98 (by decide) ?_
  have r_23 := (ke_22 42 (by decide)).trans (vr_19)
  refine T_virtual (as := [.int (nI 44), .int (nI 43), .int (nI 42)]) (rest := []) (b := 373) d_Mo_sumPoint_100 rfl (jw_Mo_sub.jo (by decide)) lm_Mo_152 ji_Mo_sub js_Mo_sub hE_22.ob rfl rfl rfl (Nat.le_of_ble_eq_true rfl) (by decide) (by decide) (u_Mo_sub hE_22 (by decide) (by decide) (by decide) vr_22 r_23) (fun r M_24 hq => ?_)
  obtain ⟨rfl, E_24, hE_24, vr_24, ke_24, kp_24⟩ := hq
  refine T_eq (pc' := 103) (L' := [(0, .ref 373), (1, .int (nI 32)), (2, .int (nI 32)), (3, .int (nI 36))]) (st' := []) (M' := M_24) rfl rfl rfl rfl ?_
  refine T_aload_n (v := .ref 373) d_Mo_sumPoint_103 rfl (Or.inr ⟨_, rfl⟩) ?_
  refine T_bipush (v := nI 45) d_Mo_sumPoint_104 (by decide) ?_
  refine T_bipush (v := nI 43) d_Mo_sumPoint_106 (by decide) ?_
  refine T_bipush (v := nI 42) d_Mo_sumPoint_108 (by decide) ?_
  have r_25 := (ke_24 43 (by decide)).trans (vr_22)
  have r_26 := (ke_24 42 (by decide)).trans (r_23)
  refine T_virtual (as := [.int (nI 45), .int (nI 43), .int (nI 42)]) (rest := []) (b := 373) d_Mo_sumPoint_110 rfl (jw_Mo_add.jo (by decide)) lm_Mo_182 ji_Mo_add js_Mo_add hE_24.ob rfl rfl rfl (Nat.le_of_ble_eq_true rfl) (by decide) (by decide) (u_Mo_add hE_24 (by decide) (by decide) (by decide) r_25 r_26) (fun r M_27 hq => ?_)
  obtain ⟨rfl, E_27, hE_27, vr_27, ke_27, kp_27⟩ := hq
  refine T_eq (pc' := 113) (L' := [(0, .ref 373), (1, .int (nI 32)), (2, .int (nI 32)), (3, .int (nI 36))]) (st' := []) (M' := M_27) rfl rfl rfl rfl ?_
  refine T_aload_n (v := .ref 373) d_Mo_sumPoint_113 rfl (Or.inr ⟨_, rfl⟩) ?_
  refine T_iload_n d_Mo_sumPoint_114 rfl ?_
  refine T_bipush (v := nI 40) d_Mo_sumPoint_115 (by decide) ?_
  refine T_bipush (v := nI 44) d_Mo_sumPoint_117 (by decide) ?_
  have r_28 := (ke_27 40 (by decide)).trans ((ke_24 40 (by decide)).trans ((ke_22 40 (by decide)).trans ((ke_19 40 (by decide)).trans ((ke_17 40 (by decide)).trans ((ke_14 40 (by decide)).trans ((ke_12 40 (by decide)).trans ((ke_9 40 (by decide)).trans (vr_6))))))))
  have r_29 := (ke_27 44 (by decide)).trans (vr_24)
  refine T_virtual (as := [.int (nI 32), .int (nI 40), .int (nI 44)]) (rest := []) (b := 373) d_Mo_sumPoint_119 rfl (jw_Mo_mul.jo (by decide)) lm_Mo_163 ji_Mo_mul js_Mo_mul hE_27.ob rfl rfl rfl (Nat.le_of_ble_eq_true rfl) (by decide) (by decide) (u_Mo_mul hE_27 (by decide) (by decide) (by decide) r_28 r_29) (fun r M_30 hq => ?_)
  obtain ⟨rfl, E_30, hE_30, vr_30, ke_30, kp_30⟩ := hq
  refine T_eq (pc' := 122) (L' := [(0, .ref 373), (1, .int (nI 32)), (2, .int (nI 32)), (3, .int (nI 36))]) (st' := []) (M' := M_30) rfl rfl rfl rfl ?_
  refine T_aload_n (v := .ref 373) d_Mo_sumPoint_122 rfl (Or.inr ⟨_, rfl⟩) ?_
  refine T_iload_n d_Mo_sumPoint_123 rfl ?_
  refine T_iconst (v := nI 1) d_Mo_sumPoint_124 (by decide) ?_
  refine N_iadd (a := 1) (b := 32) (c := 33) d_Mo_sumPoint_125 rfl ?_
  refine T_bipush (v := nI 41) d_Mo_sumPoint_126 (by decide) ?_
  refine T_bipush (v := nI 45) d_Mo_sumPoint_128 (by decide) ?_
  have r_31 := (ke_30 41 (by decide)).trans ((ke_27 41 (by decide)).trans ((ke_24 41 (by decide)).trans ((ke_22 41 (by decide)).trans ((ke_19 41 (by decide)).trans ((ke_17 41 (by decide)).trans (vr_14))))))
  have r_32 := (ke_30 45 (by decide)).trans (vr_27)
  refine T_virtual (as := [.int (nI 33), .int (nI 41), .int (nI 45)]) (rest := []) (b := 373) d_Mo_sumPoint_130 rfl (jw_Mo_mul.jo (by decide)) lm_Mo_163 ji_Mo_mul js_Mo_mul hE_30.ob rfl rfl rfl (Nat.le_of_ble_eq_true rfl) (by decide) (by decide) (u_Mo_mul hE_30 (by decide) (by decide) (by decide) r_31 r_32) (fun r M_33 hq => ?_)
  obtain ⟨rfl, E_33, hE_33, vr_33, ke_33, kp_33⟩ := hq
  refine T_eq (pc' := 133) (L' := [(0, .ref 373), (1, .int (nI 32)), (2, .int (nI 32)), (3, .int (nI 36))]) (st' := []) (M' := M_33) rfl rfl rfl rfl ?_
  refine T_aload_n (v := .ref 373) d_Mo_sumPoint_133 rfl (Or.inr ⟨_, rfl⟩) ?_
  refine T_iload_n d_Mo_sumPoint_134 rfl ?_
  refine T_iconst (v := nI 2) d_Mo_sumPoint_135 (by decide) ?_
  refine N_iadd (a := 2) (b := 32) (c := 34) d_Mo_sumPoint_136 rfl ?_
  refine T_bipush (v := nI 44) d_Mo_sumPoint_137 (by decide) ?_
  refine T_bipush (v := nI 45) d_Mo_sumPoint_139 (by decide) ?_
  have r_34 := (ke_33 44 (by decide)).trans ((ke_30 44 (by decide)).trans (r_29))
  have r_35 := (ke_33 45 (by decide)).trans (r_32)
  refine T_virtual (as := [.int (nI 34), .int (nI 44), .int (nI 45)]) (rest := []) (b := 373) d_Mo_sumPoint_141 rfl (jw_Mo_mul.jo (by decide)) lm_Mo_163 ji_Mo_mul js_Mo_mul hE_33.ob rfl rfl rfl (Nat.le_of_ble_eq_true rfl) (by decide) (by decide) (u_Mo_mul hE_33 (by decide) (by decide) (by decide) r_34 r_35) (fun r M_36 hq => ?_)
  obtain ⟨rfl, E_36, hE_36, vr_36, ke_36, kp_36⟩ := hq
  refine T_eq (pc' := 144) (L' := [(0, .ref 373), (1, .int (nI 32)), (2, .int (nI 32)), (3, .int (nI 36))]) (st' := []) (M' := M_36) rfl rfl rfl rfl ?_
  refine T_aload_n (v := .ref 373) d_Mo_sumPoint_144 rfl (Or.inr ⟨_, rfl⟩) ?_
  refine T_iload_n d_Mo_sumPoint_145 rfl ?_
  refine T_iconst (v := nI 3) d_Mo_sumPoint_146 (by decide) ?_
  refine N_iadd (a := 3) (b := 32) (c := 35) d_Mo_sumPoint_147 rfl ?_
  refine T_bipush (v := nI 40) d_Mo_sumPoint_148 (by decide) ?_
  refine T_bipush (v := nI 41) d_Mo_sumPoint_150 (by decide) ?_
  have r_37 := (ke_36 40 (by decide)).trans ((ke_33 40 (by decide)).trans ((ke_30 40 (by decide)).trans (r_28)))
  have r_38 := (ke_36 41 (by decide)).trans ((ke_33 41 (by decide)).trans (r_31))
  refine T_virtual (as := [.int (nI 35), .int (nI 40), .int (nI 41)]) (rest := []) (b := 373) d_Mo_sumPoint_152 rfl (jw_Mo_mul.jo (by decide)) lm_Mo_163 ji_Mo_mul js_Mo_mul hE_36.ob rfl rfl rfl (Nat.le_of_ble_eq_true rfl) (by decide) (by decide) (u_Mo_mul hE_36 (by decide) (by decide) (by decide) r_37 r_38) (fun r M_39 hq => ?_)
  obtain ⟨rfl, E_39, hE_39, vr_39, ke_39, kp_39⟩ := hq
  refine T_eq (pc' := 155) (L' := [(0, .ref 373), (1, .int (nI 32)), (2, .int (nI 32)), (3, .int (nI 36))]) (st' := []) (M' := M_39) rfl rfl rfl rfl ?_
  have r_40 := (ke_39 32 (by decide)).trans ((ke_36 32 (by decide)).trans ((ke_33 32 (by decide)).trans (vr_30)))
  have r_41 := (ke_39 33 (by decide)).trans ((ke_36 33 (by decide)).trans (vr_33))
  have r_42 := (ke_39 34 (by decide)).trans (vr_36)
  exact T_vret d_Mo_sumPoint_155 rfl (by decide) (by decide) ⟨rfl, E_39, hE_39, ⟨r_40, r_41, r_42, vr_39⟩, (KE.tr (KE.tr (KE.tr (KE.tr (KE.tr (KE.tr (KE.tr (KE.tr (KE.tr (KE.tr (KE.tr (KE.tr (KE.tr (KE.tr (KE.tr (KE.rf : KE [40, 41, 42, 43, 44, 45, 32, 33, 34, 35] E E) (KE.mono ke_1 (by decide))) (KE.mono ke_4 (by decide))) (KE.mono ke_6 (by decide))) (KE.mono ke_9 (by decide))) (KE.mono ke_12 (by decide))) (KE.mono ke_14 (by decide))) (KE.mono ke_17 (by decide))) (KE.mono ke_19 (by decide))) (KE.mono ke_22 (by decide))) (KE.mono ke_24 (by decide))) (KE.mono ke_27 (by decide))) (KE.mono ke_30 (by decide))) (KE.mono ke_33 (by decide))) (KE.mono ke_36 (by decide))) (KE.mono ke_39 (by decide))), (Kp.tr (Kp.tr (Kp.tr (Kp.tr (Kp.tr (Kp.tr (Kp.tr (Kp.tr (Kp.tr (Kp.tr (Kp.tr (Kp.tr (Kp.tr (Kp.tr (Kp.tr (Kp.rf : Kp [390, 391, 392, 393, 394] M M) (Kp.mono kp_1 (by decide))) (Kp.mono kp_4 (by decide))) (Kp.mono kp_6 (by decide))) (Kp.mono kp_9 (by decide))) (Kp.mono kp_12 (by decide))) (Kp.mono kp_14 (by decide))) (Kp.mono kp_17 (by decide))) (Kp.mono kp_19 (by decide))) (Kp.mono kp_22 (by decide))) (Kp.mono kp_24 (by decide))) (Kp.mono kp_27 (by decide))) (Kp.mono kp_30 (by decide))) (Kp.mono kp_33 (by decide))) (Kp.mono kp_36 (by decide))) (Kp.mono kp_39 (by decide)))⟩
set_option maxHeartbeats 8000000 in
theorem u_Mo_sum_12_12_16 {G : GX} {M : List va_E} {v : Nat → Int32} {E : Nat → Int} (hE : RE M v E) (e2 : E 2 = cD) {X Y Z T X' Y' Z' T' : Int} (ha : P4 E 12 X Y Z T) (hb : P4 E 16 X' Y' Z' T') : CT G mi_Mo_sumPoint [.ref 373, .int (nI 12), .int (nI 12), .int (nI 16)] M (fun r M' => r = none ∧ qP4 M v E 12 (((X * Y') + (Y * X')) * ((Z * Z') - ((T * T') * cD))) (((Y * Y') + (X * X')) * ((Z * Z') + ((T * T') * cD))) (((Z * Z') - ((T * T') * cD)) * ((Z * Z') + ((T * T') * cD))) (((X * Y') + (Y * X')) * ((Y * Y') + (X * X'))) [40, 41, 42, 43, 44, 45, 12, 13, 14, 15] M') := by
  refine CT.of (by decide) (Nat.le_of_ble_eq_true rfl) ?_
  show TT G mi_Mo_sumPoint 0 [(0, .ref 373), (1, .int (nI 12)), (2, .int (nI 12)), (3, .int (nI 16))] [] M 0 0 _
  refine T_aload_n (v := .ref 373) d_Mo_sumPoint_0 rfl (Or.inr ⟨_, rfl⟩) ?_
  refine T_bipush (v := nI 40) d_Mo_sumPoint_1 (by decide) ?_
  refine T_iload_n d_Mo_sumPoint_3 rfl ?_
  refine T_iload_n d_Mo_sumPoint_4 rfl ?_
  refine T_iconst (v := nI 1) d_Mo_sumPoint_5 (by decide) ?_
  refine N_iadd (a := 1) (b := 16) (c := 17) d_Mo_sumPoint_6 rfl ?_
  refine T_virtual (as := [.int (nI 40), .int (nI 12), .int (nI 17)]) (rest := []) (b := 373) d_Mo_sumPoint_7 rfl (jw_Mo_mul.jo (by decide)) lm_Mo_163 ji_Mo_mul js_Mo_mul hE.ob rfl rfl rfl (Nat.le_of_ble_eq_true rfl) (by decide) (by decide) (u_Mo_mul hE (by decide) (by decide) (by decide) ha.1 hb.2.1) (fun r M_1 hq => ?_)
  obtain ⟨rfl, E_1, hE_1, vr_1, ke_1, kp_1⟩ := hq
  refine T_eq (pc' := 10) (L' := [(0, .ref 373), (1, .int (nI 12)), (2, .int (nI 12)), (3, .int (nI 16))]) (st' := []) (M' := M_1) rfl rfl rfl rfl ?_
  refine T_aload_n (v := .ref 373) d_Mo_sumPoint_10 rfl (Or.inr ⟨_, rfl⟩) ?_
  refine T_bipush (v := nI 41) d_Mo_sumPoint_11 (by decide) ?_
  refine T_iload_n d_Mo_sumPoint_13 rfl ?_
  refine T_iconst (v := nI 1) d_Mo_sumPoint_14 (by decide) ?_
  refine N_iadd (a := 1) (b := 12) (c := 13) d_Mo_sumPoint_15 rfl ?_
  refine T_iload_n d_Mo_sumPoint_16 rfl ?_
  have r_2 := (ke_1 13 (by decide)).trans (ha.2.1)
  have r_3 := (ke_1 16 (by decide)).trans (hb.1)
  refine T_virtual (as := [.int (nI 41), .int (nI 13), .int (nI 16)]) (rest := []) (b := 373) d_Mo_sumPoint_17 rfl (jw_Mo_mul.jo (by decide)) lm_Mo_163 ji_Mo_mul js_Mo_mul hE_1.ob rfl rfl rfl (Nat.le_of_ble_eq_true rfl) (by decide) (by decide) (u_Mo_mul hE_1 (by decide) (by decide) (by decide) r_2 r_3) (fun r M_4 hq => ?_)
  obtain ⟨rfl, E_4, hE_4, vr_4, ke_4, kp_4⟩ := hq
  refine T_eq (pc' := 20) (L' := [(0, .ref 373), (1, .int (nI 12)), (2, .int (nI 12)), (3, .int (nI 16))]) (st' := []) (M' := M_4) rfl rfl rfl rfl ?_
  refine T_aload_n (v := .ref 373) d_Mo_sumPoint_20 rfl (Or.inr ⟨_, rfl⟩) ?_
  refine T_bipush (v := nI 40) d_Mo_sumPoint_21 (by decide) ?_
  refine T_bipush (v := nI 40) d_Mo_sumPoint_23 (by decide) ?_
  refine T_bipush (v := nI 41) d_Mo_sumPoint_25 (by decide) ?_
  have r_5 := (ke_4 40 (by decide)).trans (vr_1)
  refine T_virtual (as := [.int (nI 40), .int (nI 40), .int (nI 41)]) (rest := []) (b := 373) d_Mo_sumPoint_27 rfl (jw_Mo_add.jo (by decide)) lm_Mo_182 ji_Mo_add js_Mo_add hE_4.ob rfl rfl rfl (Nat.le_of_ble_eq_true rfl) (by decide) (by decide) (u_Mo_add hE_4 (by decide) (by decide) (by decide) r_5 vr_4) (fun r M_6 hq => ?_)
  obtain ⟨rfl, E_6, hE_6, vr_6, ke_6, kp_6⟩ := hq
  refine T_eq (pc' := 30) (L' := [(0, .ref 373), (1, .int (nI 12)), (2, .int (nI 12)), (3, .int (nI 16))]) (st' := []) (M' := M_6) rfl rfl rfl rfl ?_
  refine T_aload_n (v := .ref 373) d_Mo_sumPoint_30 rfl (Or.inr ⟨_, rfl⟩) ?_
  refine T_bipush (v := nI 41) d_Mo_sumPoint_31 (by decide) ?_
  refine T_iload_n d_Mo_sumPoint_33 rfl ?_
  refine T_iconst (v := nI 1) d_Mo_sumPoint_34 (by decide) ?_
  refine N_iadd (a := 1) (b := 12) (c := 13) d_Mo_sumPoint_35 rfl ?_
  refine T_iload_n d_Mo_sumPoint_36 rfl ?_
  refine T_iconst (v := nI 1) d_Mo_sumPoint_37 (by decide) ?_
  refine N_iadd (a := 1) (b := 16) (c := 17) d_Mo_sumPoint_38 rfl ?_
  have r_7 := (ke_6 13 (by decide)).trans ((ke_4 13 (by decide)).trans (r_2))
  have r_8 := (ke_6 17 (by decide)).trans ((ke_4 17 (by decide)).trans ((ke_1 17 (by decide)).trans (hb.2.1)))
  refine T_virtual (as := [.int (nI 41), .int (nI 13), .int (nI 17)]) (rest := []) (b := 373) d_Mo_sumPoint_39 rfl (jw_Mo_mul.jo (by decide)) lm_Mo_163 ji_Mo_mul js_Mo_mul hE_6.ob rfl rfl rfl (Nat.le_of_ble_eq_true rfl) (by decide) (by decide) (u_Mo_mul hE_6 (by decide) (by decide) (by decide) r_7 r_8) (fun r M_9 hq => ?_)
  obtain ⟨rfl, E_9, hE_9, vr_9, ke_9, kp_9⟩ := hq
  refine T_eq (pc' := 42) (L' := [(0, .ref 373), (1, .int (nI 12)), (2, .int (nI 12)), (3, .int (nI 16))]) (st' := []) (M' := M_9) rfl rfl rfl rfl ?_
  refine T_aload_n (v := .ref 373) d_Mo_sumPoint_42 rfl (Or.inr ⟨_, rfl⟩) ?_
  refine T_bipush (v := nI 42) d_Mo_sumPoint_43 (by decide) ?_
  refine T_iload_n d_Mo_sumPoint_45 rfl ?_
  refine T_iload_n d_Mo_sumPoint_46 rfl ?_
  have r_10 := (ke_9 12 (by decide)).trans ((ke_6 12 (by decide)).trans ((ke_4 12 (by decide)).trans ((ke_1 12 (by decide)).trans (ha.1))))
  have r_11 := (ke_9 16 (by decide)).trans ((ke_6 16 (by decide)).trans ((ke_4 16 (by decide)).trans (r_3)))
  refine T_virtual (as := [.int (nI 42), .int (nI 12), .int (nI 16)]) (rest := []) (b := 373) d_Mo_sumPoint_47 rfl (jw_Mo_mul.jo (by decide)) lm_Mo_163 ji_Mo_mul js_Mo_mul hE_9.ob rfl rfl rfl (Nat.le_of_ble_eq_true rfl) (by decide) (by decide) (u_Mo_mul hE_9 (by decide) (by decide) (by decide) r_10 r_11) (fun r M_12 hq => ?_)
  obtain ⟨rfl, E_12, hE_12, vr_12, ke_12, kp_12⟩ := hq
  refine T_eq (pc' := 50) (L' := [(0, .ref 373), (1, .int (nI 12)), (2, .int (nI 12)), (3, .int (nI 16))]) (st' := []) (M' := M_12) rfl rfl rfl rfl ?_
  refine T_aload_n (v := .ref 373) d_Mo_sumPoint_50 rfl (Or.inr ⟨_, rfl⟩) ?_
  refine T_bipush (v := nI 41) d_Mo_sumPoint_51 (by decide) ?_
  refine T_bipush (v := nI 41) d_Mo_sumPoint_53 (by decide) ?_
  refine T_bipush (v := nI 42) d_Mo_sumPoint_55 (by decide) ?_
  have r_13 := (ke_12 41 (by decide)).trans (vr_9)
  refine T_virtual (as := [.int (nI 41), .int (nI 41), .int (nI 42)]) (rest := []) (b := 373) d_Mo_sumPoint_57 rfl (jw_Mo_add.jo (by decide)) lm_Mo_182 ji_Mo_add js_Mo_add hE_12.ob rfl rfl rfl (Nat.le_of_ble_eq_true rfl) (by decide) (by decide) (u_Mo_add hE_12 (by decide) (by decide) (by decide) r_13 vr_12) (fun r M_14 hq => ?_)
  obtain ⟨rfl, E_14, hE_14, vr_14, ke_14, kp_14⟩ := hq
  refine T_eq (pc' := 60) (L' := [(0, .ref 373), (1, .int (nI 12)), (2, .int (nI 12)), (3, .int (nI 16))]) (st' := []) (M' := M_14) rfl rfl rfl rfl ?_
  refine T_aload_n (v := .ref 373) d_Mo_sumPoint_60 rfl (Or.inr ⟨_, rfl⟩) ?_
  refine T_bipush (v := nI 42) d_Mo_sumPoint_61 (by decide) ?_
  refine T_iload_n d_Mo_sumPoint_63 rfl ?_
  refine T_iconst (v := nI 3) d_Mo_sumPoint_64 (by decide) ?_
  refine N_iadd (a := 3) (b := 12) (c := 15) d_Mo_sumPoint_65 rfl ?_
  refine T_iload_n d_Mo_sumPoint_66 rfl ?_
  refine T_iconst (v := nI 3) d_Mo_sumPoint_67 (by decide) ?_
  refine N_iadd (a := 3) (b := 16) (c := 19) d_Mo_sumPoint_68 rfl ?_
  have r_15 := (ke_14 15 (by decide)).trans ((ke_12 15 (by decide)).trans ((ke_9 15 (by decide)).trans ((ke_6 15 (by decide)).trans ((ke_4 15 (by decide)).trans ((ke_1 15 (by decide)).trans (ha.2.2.2))))))
  have r_16 := (ke_14 19 (by decide)).trans ((ke_12 19 (by decide)).trans ((ke_9 19 (by decide)).trans ((ke_6 19 (by decide)).trans ((ke_4 19 (by decide)).trans ((ke_1 19 (by decide)).trans (hb.2.2.2))))))
  refine T_virtual (as := [.int (nI 42), .int (nI 15), .int (nI 19)]) (rest := []) (b := 373) d_Mo_sumPoint_69 rfl (jw_Mo_mul.jo (by decide)) lm_Mo_163 ji_Mo_mul js_Mo_mul hE_14.ob rfl rfl rfl (Nat.le_of_ble_eq_true rfl) (by decide) (by decide) (u_Mo_mul hE_14 (by decide) (by decide) (by decide) r_15 r_16) (fun r M_17 hq => ?_)
  obtain ⟨rfl, E_17, hE_17, vr_17, ke_17, kp_17⟩ := hq
  refine T_eq (pc' := 72) (L' := [(0, .ref 373), (1, .int (nI 12)), (2, .int (nI 12)), (3, .int (nI 16))]) (st' := []) (M' := M_17) rfl rfl rfl rfl ?_
  refine T_aload_n (v := .ref 373) d_Mo_sumPoint_72 rfl (Or.inr ⟨_, rfl⟩) ?_
  refine T_bipush (v := nI 42) d_Mo_sumPoint_73 (by decide) ?_
  refine T_bipush (v := nI 42) d_Mo_sumPoint_75 (by decide) ?_
  refine T_iconst (v := nI 2) d_Mo_sumPoint_77 (by decide) ?_
  have r_18 := (ke_17 2 (by decide)).trans ((ke_14 2 (by decide)).trans ((ke_12 2 (by decide)).trans ((ke_9 2 (by decide)).trans ((ke_6 2 (by decide)).trans ((ke_4 2 (by decide)).trans ((ke_1 2 (by decide)).trans (e2)))))))
  refine T_virtual (as := [.int (nI 42), .int (nI 42), .int (nI 2)]) (rest := []) (b := 373) d_Mo_sumPoint_78 rfl (jw_Mo_mul.jo (by decide)) lm_Mo_163 ji_Mo_mul js_Mo_mul hE_17.ob rfl rfl rfl (Nat.le_of_ble_eq_true rfl) (by decide) (by decide) (u_Mo_mul hE_17 (by decide) (by decide) (by decide) vr_17 r_18) (fun r M_19 hq => ?_)
  obtain ⟨rfl, E_19, hE_19, vr_19, ke_19, kp_19⟩ := hq
  refine T_eq (pc' := 81) (L' := [(0, .ref 373), (1, .int (nI 12)), (2, .int (nI 12)), (3, .int (nI 16))]) (st' := []) (M' := M_19) rfl rfl rfl rfl ?_
  refine T_aload_n (v := .ref 373) d_Mo_sumPoint_81 rfl (Or.inr ⟨_, rfl⟩) ?_
  refine T_bipush (v := nI 43) d_Mo_sumPoint_82 (by decide) ?_
  refine T_iload_n d_Mo_sumPoint_84 rfl ?_
  refine T_iconst (v := nI 2) d_Mo_sumPoint_85 (by decide) ?_
  refine N_iadd (a := 2) (b := 12) (c := 14) d_Mo_sumPoint_86 rfl ?_
  refine T_iload_n d_Mo_sumPoint_87 rfl ?_
  refine T_iconst (v := nI 2) d_Mo_sumPoint_88 (by decide) ?_
  refine N_iadd (a := 2) (b := 16) (c := 18) d_Mo_sumPoint_89 rfl ?_
  have r_20 := (ke_19 14 (by decide)).trans ((ke_17 14 (by decide)).trans ((ke_14 14 (by decide)).trans ((ke_12 14 (by decide)).trans ((ke_9 14 (by decide)).trans ((ke_6 14 (by decide)).trans ((ke_4 14 (by decide)).trans ((ke_1 14 (by decide)).trans (ha.2.2.1))))))))
  have r_21 := (ke_19 18 (by decide)).trans ((ke_17 18 (by decide)).trans ((ke_14 18 (by decide)).trans ((ke_12 18 (by decide)).trans ((ke_9 18 (by decide)).trans ((ke_6 18 (by decide)).trans ((ke_4 18 (by decide)).trans ((ke_1 18 (by decide)).trans (hb.2.2.1))))))))
  refine T_virtual (as := [.int (nI 43), .int (nI 14), .int (nI 18)]) (rest := []) (b := 373) d_Mo_sumPoint_90 rfl (jw_Mo_mul.jo (by decide)) lm_Mo_163 ji_Mo_mul js_Mo_mul hE_19.ob rfl rfl rfl (Nat.le_of_ble_eq_true rfl) (by decide) (by decide) (u_Mo_mul hE_19 (by decide) (by decide) (by decide) r_20 r_21) (fun r M_22 hq => ?_)
  obtain ⟨rfl, E_22, hE_22, vr_22, ke_22, kp_22⟩ := hq
  refine T_eq (pc' := 93) (L' := [(0, .ref 373), (1, .int (nI 12)), (2, .int (nI 12)), (3, .int (nI 16))]) (st' := []) (M' := M_22) rfl rfl rfl rfl ?_
  refine T_aload_n (v := .ref 373) d_Mo_sumPoint_93 rfl (Or.inr ⟨_, rfl⟩) ?_
  refine T_bipush (v := nI 44) d_Mo_sumPoint_94 (by decide) ?_
  refine T_bipush (v := nI 43) d_Mo_sumPoint_96 (by decide) ?_
  refine T_bipush (v := nI 42) d_Mo_sumPoint_98 (by decide) ?_
  have r_23 := (ke_22 42 (by decide)).trans (vr_19)
  refine T_virtual (as := [.int (nI 44), .int (nI 43), .int (nI 42)]) (rest := []) (b := 373) d_Mo_sumPoint_100 rfl (jw_Mo_sub.jo (by decide)) lm_Mo_152 ji_Mo_sub js_Mo_sub hE_22.ob rfl rfl rfl (Nat.le_of_ble_eq_true rfl) (by decide) (by decide) (u_Mo_sub hE_22 (by decide) (by decide) (by decide) vr_22 r_23) (fun r M_24 hq => ?_)
  obtain ⟨rfl, E_24, hE_24, vr_24, ke_24, kp_24⟩ := hq
  refine T_eq (pc' := 103) (L' := [(0, .ref 373), (1, .int (nI 12)), (2, .int (nI 12)), (3, .int (nI 16))]) (st' := []) (M' := M_24) rfl rfl rfl rfl ?_
  refine T_aload_n (v := .ref 373) d_Mo_sumPoint_103 rfl (Or.inr ⟨_, rfl⟩) ?_
  refine T_bipush (v := nI 45) d_Mo_sumPoint_104 (by decide) ?_
  refine T_bipush (v := nI 43) d_Mo_sumPoint_106 (by decide) ?_
  refine T_bipush (v := nI 42) d_Mo_sumPoint_108 (by decide) ?_
  have r_25 := (ke_24 43 (by decide)).trans (vr_22)
  have r_26 := (ke_24 42 (by decide)).trans (r_23)
  refine T_virtual (as := [.int (nI 45), .int (nI 43), .int (nI 42)]) (rest := []) (b := 373) d_Mo_sumPoint_110 rfl (jw_Mo_add.jo (by decide)) lm_Mo_182 ji_Mo_add js_Mo_add hE_24.ob rfl rfl rfl (Nat.le_of_ble_eq_true rfl) (by decide) (by decide) (u_Mo_add hE_24 (by decide) (by decide) (by decide) r_25 r_26) (fun r M_27 hq => ?_)
  obtain ⟨rfl, E_27, hE_27, vr_27, ke_27, kp_27⟩ := hq
  refine T_eq (pc' := 113) (L' := [(0, .ref 373), (1, .int (nI 12)), (2, .int (nI 12)), (3, .int (nI 16))]) (st' := []) (M' := M_27) rfl rfl rfl rfl ?_
  refine T_aload_n (v := .ref 373) d_Mo_sumPoint_113 rfl (Or.inr ⟨_, rfl⟩) ?_
  refine T_iload_n d_Mo_sumPoint_114 rfl ?_
  refine T_bipush (v := nI 40) d_Mo_sumPoint_115 (by decide) ?_
  refine T_bipush (v := nI 44) d_Mo_sumPoint_117 (by decide) ?_
  have r_28 := (ke_27 40 (by decide)).trans ((ke_24 40 (by decide)).trans ((ke_22 40 (by decide)).trans ((ke_19 40 (by decide)).trans ((ke_17 40 (by decide)).trans ((ke_14 40 (by decide)).trans ((ke_12 40 (by decide)).trans ((ke_9 40 (by decide)).trans (vr_6))))))))
  have r_29 := (ke_27 44 (by decide)).trans (vr_24)
  refine T_virtual (as := [.int (nI 12), .int (nI 40), .int (nI 44)]) (rest := []) (b := 373) d_Mo_sumPoint_119 rfl (jw_Mo_mul.jo (by decide)) lm_Mo_163 ji_Mo_mul js_Mo_mul hE_27.ob rfl rfl rfl (Nat.le_of_ble_eq_true rfl) (by decide) (by decide) (u_Mo_mul hE_27 (by decide) (by decide) (by decide) r_28 r_29) (fun r M_30 hq => ?_)
  obtain ⟨rfl, E_30, hE_30, vr_30, ke_30, kp_30⟩ := hq
  refine T_eq (pc' := 122) (L' := [(0, .ref 373), (1, .int (nI 12)), (2, .int (nI 12)), (3, .int (nI 16))]) (st' := []) (M' := M_30) rfl rfl rfl rfl ?_
  refine T_aload_n (v := .ref 373) d_Mo_sumPoint_122 rfl (Or.inr ⟨_, rfl⟩) ?_
  refine T_iload_n d_Mo_sumPoint_123 rfl ?_
  refine T_iconst (v := nI 1) d_Mo_sumPoint_124 (by decide) ?_
  refine N_iadd (a := 1) (b := 12) (c := 13) d_Mo_sumPoint_125 rfl ?_
  refine T_bipush (v := nI 41) d_Mo_sumPoint_126 (by decide) ?_
  refine T_bipush (v := nI 45) d_Mo_sumPoint_128 (by decide) ?_
  have r_31 := (ke_30 41 (by decide)).trans ((ke_27 41 (by decide)).trans ((ke_24 41 (by decide)).trans ((ke_22 41 (by decide)).trans ((ke_19 41 (by decide)).trans ((ke_17 41 (by decide)).trans (vr_14))))))
  have r_32 := (ke_30 45 (by decide)).trans (vr_27)
  refine T_virtual (as := [.int (nI 13), .int (nI 41), .int (nI 45)]) (rest := []) (b := 373) d_Mo_sumPoint_130 rfl (jw_Mo_mul.jo (by decide)) lm_Mo_163 ji_Mo_mul js_Mo_mul hE_30.ob rfl rfl rfl (Nat.le_of_ble_eq_true rfl) (by decide) (by decide) (u_Mo_mul hE_30 (by decide) (by decide) (by decide) r_31 r_32) (fun r M_33 hq => ?_)
  obtain ⟨rfl, E_33, hE_33, vr_33, ke_33, kp_33⟩ := hq
  refine T_eq (pc' := 133) (L' := [(0, .ref 373), (1, .int (nI 12)), (2, .int (nI 12)), (3, .int (nI 16))]) (st' := []) (M' := M_33) rfl rfl rfl rfl ?_
  refine T_aload_n (v := .ref 373) d_Mo_sumPoint_133 rfl (Or.inr ⟨_, rfl⟩) ?_
  refine T_iload_n d_Mo_sumPoint_134 rfl ?_
  refine T_iconst (v := nI 2) d_Mo_sumPoint_135 (by decide) ?_
  refine N_iadd (a := 2) (b := 12) (c := 14) d_Mo_sumPoint_136 rfl ?_
  refine T_bipush (v := nI 44) d_Mo_sumPoint_137 (by decide) ?_
  refine T_bipush (v := nI 45) d_Mo_sumPoint_139 (by decide) ?_
  have r_34 := (ke_33 44 (by decide)).trans ((ke_30 44 (by decide)).trans (r_29))
  have r_35 := (ke_33 45 (by decide)).trans (r_32)
  refine T_virtual (as := [.int (nI 14), .int (nI 44), .int (nI 45)]) (rest := []) (b := 373) d_Mo_sumPoint_141 rfl (jw_Mo_mul.jo (by decide)) lm_Mo_163 ji_Mo_mul js_Mo_mul hE_33.ob rfl rfl rfl (Nat.le_of_ble_eq_true rfl) (by decide) (by decide) (u_Mo_mul hE_33 (by decide) (by decide) (by decide) r_34 r_35) (fun r M_36 hq => ?_)
  obtain ⟨rfl, E_36, hE_36, vr_36, ke_36, kp_36⟩ := hq
  refine T_eq (pc' := 144) (L' := [(0, .ref 373), (1, .int (nI 12)), (2, .int (nI 12)), (3, .int (nI 16))]) (st' := []) (M' := M_36) rfl rfl rfl rfl ?_
  refine T_aload_n (v := .ref 373) d_Mo_sumPoint_144 rfl (Or.inr ⟨_, rfl⟩) ?_
  refine T_iload_n d_Mo_sumPoint_145 rfl ?_
  refine T_iconst (v := nI 3) d_Mo_sumPoint_146 (by decide) ?_
  refine N_iadd (a := 3) (b := 12) (c := 15) d_Mo_sumPoint_147 rfl ?_
  refine T_bipush (v := nI 40) d_Mo_sumPoint_148 (by decide) ?_
  refine T_bipush (v := nI 41) d_Mo_sumPoint_150 (by decide) ?_
  have r_37 := (ke_36 40 (by decide)).trans ((ke_33 40 (by decide)).trans ((ke_30 40 (by decide)).trans (r_28)))
  have r_38 := (ke_36 41 (by decide)).trans ((ke_33 41 (by decide)).trans (r_31))
  refine T_virtual (as := [.int (nI 15), .int (nI 40), .int (nI 41)]) (rest := []) (b := 373) d_Mo_sumPoint_152 rfl (jw_Mo_mul.jo (by decide)) lm_Mo_163 ji_Mo_mul js_Mo_mul hE_36.ob rfl rfl rfl (Nat.le_of_ble_eq_true rfl) (by decide) (by decide) (u_Mo_mul hE_36 (by decide) (by decide) (by decide) r_37 r_38) (fun r M_39 hq => ?_)
  obtain ⟨rfl, E_39, hE_39, vr_39, ke_39, kp_39⟩ := hq
  refine T_eq (pc' := 155) (L' := [(0, .ref 373), (1, .int (nI 12)), (2, .int (nI 12)), (3, .int (nI 16))]) (st' := []) (M' := M_39) rfl rfl rfl rfl ?_
  have r_40 := (ke_39 12 (by decide)).trans ((ke_36 12 (by decide)).trans ((ke_33 12 (by decide)).trans (vr_30)))
  have r_41 := (ke_39 13 (by decide)).trans ((ke_36 13 (by decide)).trans (vr_33))
  have r_42 := (ke_39 14 (by decide)).trans (vr_36)
  exact T_vret d_Mo_sumPoint_155 rfl (by decide) (by decide) ⟨rfl, E_39, hE_39, ⟨r_40, r_41, r_42, vr_39⟩, (KE.tr (KE.tr (KE.tr (KE.tr (KE.tr (KE.tr (KE.tr (KE.tr (KE.tr (KE.tr (KE.tr (KE.tr (KE.tr (KE.tr (KE.tr (KE.rf : KE [40, 41, 42, 43, 44, 45, 12, 13, 14, 15] E E) (KE.mono ke_1 (by decide))) (KE.mono ke_4 (by decide))) (KE.mono ke_6 (by decide))) (KE.mono ke_9 (by decide))) (KE.mono ke_12 (by decide))) (KE.mono ke_14 (by decide))) (KE.mono ke_17 (by decide))) (KE.mono ke_19 (by decide))) (KE.mono ke_22 (by decide))) (KE.mono ke_24 (by decide))) (KE.mono ke_27 (by decide))) (KE.mono ke_30 (by decide))) (KE.mono ke_33 (by decide))) (KE.mono ke_36 (by decide))) (KE.mono ke_39 (by decide))), (Kp.tr (Kp.tr (Kp.tr (Kp.tr (Kp.tr (Kp.tr (Kp.tr (Kp.tr (Kp.tr (Kp.tr (Kp.tr (Kp.tr (Kp.tr (Kp.tr (Kp.tr (Kp.rf : Kp [390, 391, 392, 393, 394] M M) (Kp.mono kp_1 (by decide))) (Kp.mono kp_4 (by decide))) (Kp.mono kp_6 (by decide))) (Kp.mono kp_9 (by decide))) (Kp.mono kp_12 (by decide))) (Kp.mono kp_14 (by decide))) (Kp.mono kp_17 (by decide))) (Kp.mono kp_19 (by decide))) (Kp.mono kp_22 (by decide))) (Kp.mono kp_24 (by decide))) (Kp.mono kp_27 (by decide))) (Kp.mono kp_30 (by decide))) (Kp.mono kp_33 (by decide))) (Kp.mono kp_36 (by decide))) (Kp.mono kp_39 (by decide)))⟩
set_option maxHeartbeats 8000000 in
theorem u_Mo_setP_36_8 {G : GX} {M : List va_E} {v : Nat → Int32} {E : Nat → Int} (hE : RE M v E) {X Y Z T : Int} (ha : P4 E 8 X Y Z T) : CT G mi_Mo_setPoint [.ref 373, .int (nI 36), .int (nI 8)] M (fun r M' => r = none ∧ qP4 M v E 36 X Y Z T [36, 37, 38, 39] M') := by
  refine CT.of (by decide) (Nat.le_of_ble_eq_true rfl) ?_
  show TT G mi_Mo_setPoint 0 [(0, .ref 373), (1, .int (nI 36)), (2, .int (nI 8))] [] M 0 0 _
  refine T_iconst (v := nI 0) d_Mo_setPoint_0 (by decide) ?_
  refine T_istore_n (L' := [(3, .int (nI 0)), (0, .ref 373), (1, .int (nI 36)), (2, .int (nI 8))]) d_Mo_setPoint_1 (by decide) rfl ?_
  refine T_iload_n d_Mo_setPoint_2 rfl ?_
  refine T_iconst (v := nI 4) d_Mo_setPoint_3 (by decide) ?_
  refine N_icmp_ge_f (a := 4) (b := 0) d_Mo_setPoint_4 (tgt := 23) rfl (by omega) (by omega) (by omega) ?_
  refine T_aload_n (v := .ref 373) d_Mo_setPoint_7 rfl (Or.inr ⟨_, rfl⟩) ?_
  refine T_iload_n d_Mo_setPoint_8 rfl ?_
  refine T_iload_n d_Mo_setPoint_9 rfl ?_
  refine N_iadd (a := 0) (b := 36) (c := 36) d_Mo_setPoint_10 rfl ?_
  refine T_iload_n d_Mo_setPoint_11 rfl ?_
  refine T_iload_n d_Mo_setPoint_12 rfl ?_
  refine N_iadd (a := 0) (b := 8) (c := 8) d_Mo_setPoint_13 rfl ?_
  refine T_virtual (as := [.int (nI 36), .int (nI 8)]) (rest := []) (b := 373) d_Mo_setPoint_14 rfl (jw_Mo_set.jo (by decide)) lm_Mo_160 ji_Mo_set js_Mo_set hE.ob rfl rfl rfl (Nat.le_of_ble_eq_true rfl) (by decide) (by decide) (u_Mo_set hE (by decide) (by decide) ha.1) (fun r M_1 hq => ?_)
  obtain ⟨rfl, E_1, hE_1, vr_1, ke_1, kp_1⟩ := hq
  refine T_eq (pc' := 17) (L' := [(3, .int (nI 0)), (0, .ref 373), (1, .int (nI 36)), (2, .int (nI 8))]) (st' := []) (M' := M_1) rfl rfl rfl rfl ?_
  refine N_iinc (k := 0) (m := 1) (c := 1) (L' := [(3, .int (nI 1)), (0, .ref 373), (1, .int (nI 36)), (2, .int (nI 8))]) d_Mo_setPoint_17 (by decide) rfl (by decide) rfl rfl ?_
  refine T_goto (tgt := 2) d_Mo_setPoint_20 rfl ?_
  refine T_iload_n d_Mo_setPoint_2 rfl ?_
  refine T_iconst (v := nI 4) d_Mo_setPoint_3 (by decide) ?_
  refine N_icmp_ge_f (a := 4) (b := 1) d_Mo_setPoint_4 (tgt := 23) rfl (by omega) (by omega) (by omega) ?_
  refine T_aload_n (v := .ref 373) d_Mo_setPoint_7 rfl (Or.inr ⟨_, rfl⟩) ?_
  refine T_iload_n d_Mo_setPoint_8 rfl ?_
  refine T_iload_n d_Mo_setPoint_9 rfl ?_
  refine N_iadd (a := 1) (b := 36) (c := 37) d_Mo_setPoint_10 rfl ?_
  refine T_iload_n d_Mo_setPoint_11 rfl ?_
  refine T_iload_n d_Mo_setPoint_12 rfl ?_
  refine N_iadd (a := 1) (b := 8) (c := 9) d_Mo_setPoint_13 rfl ?_
  have r_2 := (ke_1 9 (by decide)).trans (ha.2.1)
  refine T_virtual (as := [.int (nI 37), .int (nI 9)]) (rest := []) (b := 373) d_Mo_setPoint_14 rfl (jw_Mo_set.jo (by decide)) lm_Mo_160 ji_Mo_set js_Mo_set hE_1.ob rfl rfl rfl (Nat.le_of_ble_eq_true rfl) (by decide) (by decide) (u_Mo_set hE_1 (by decide) (by decide) r_2) (fun r M_3 hq => ?_)
  obtain ⟨rfl, E_3, hE_3, vr_3, ke_3, kp_3⟩ := hq
  refine T_eq (pc' := 17) (L' := [(3, .int (nI 1)), (0, .ref 373), (1, .int (nI 36)), (2, .int (nI 8))]) (st' := []) (M' := M_3) rfl rfl rfl rfl ?_
  refine N_iinc (k := 1) (m := 1) (c := 2) (L' := [(3, .int (nI 2)), (0, .ref 373), (1, .int (nI 36)), (2, .int (nI 8))]) d_Mo_setPoint_17 (by decide) rfl (by decide) rfl rfl ?_
  refine T_goto (tgt := 2) d_Mo_setPoint_20 rfl ?_
  refine T_iload_n d_Mo_setPoint_2 rfl ?_
  refine T_iconst (v := nI 4) d_Mo_setPoint_3 (by decide) ?_
  refine N_icmp_ge_f (a := 4) (b := 2) d_Mo_setPoint_4 (tgt := 23) rfl (by omega) (by omega) (by omega) ?_
  refine T_aload_n (v := .ref 373) d_Mo_setPoint_7 rfl (Or.inr ⟨_, rfl⟩) ?_
  refine T_iload_n d_Mo_setPoint_8 rfl ?_
  refine T_iload_n d_Mo_setPoint_9 rfl ?_
  refine N_iadd (a := 2) (b := 36) (c := 38) d_Mo_setPoint_10 rfl ?_
  refine T_iload_n d_Mo_setPoint_11 rfl ?_
  refine T_iload_n d_Mo_setPoint_12 rfl ?_
  refine N_iadd (a := 2) (b := 8) (c := 10) d_Mo_setPoint_13 rfl ?_
  have r_4 := (ke_3 10 (by decide)).trans ((ke_1 10 (by decide)).trans (ha.2.2.1))
  refine T_virtual (as := [.int (nI 38), .int (nI 10)]) (rest := []) (b := 373) d_Mo_setPoint_14 rfl (jw_Mo_set.jo (by decide)) lm_Mo_160 ji_Mo_set js_Mo_set hE_3.ob rfl rfl rfl (Nat.le_of_ble_eq_true rfl) (by decide) (by decide) (u_Mo_set hE_3 (by decide) (by decide) r_4) (fun r M_5 hq => ?_)
  obtain ⟨rfl, E_5, hE_5, vr_5, ke_5, kp_5⟩ := hq
  refine T_eq (pc' := 17) (L' := [(3, .int (nI 2)), (0, .ref 373), (1, .int (nI 36)), (2, .int (nI 8))]) (st' := []) (M' := M_5) rfl rfl rfl rfl ?_
  refine N_iinc (k := 2) (m := 1) (c := 3) (L' := [(3, .int (nI 3)), (0, .ref 373), (1, .int (nI 36)), (2, .int (nI 8))]) d_Mo_setPoint_17 (by decide) rfl (by decide) rfl rfl ?_
  refine T_goto (tgt := 2) d_Mo_setPoint_20 rfl ?_
  refine T_iload_n d_Mo_setPoint_2 rfl ?_
  refine T_iconst (v := nI 4) d_Mo_setPoint_3 (by decide) ?_
  refine N_icmp_ge_f (a := 4) (b := 3) d_Mo_setPoint_4 (tgt := 23) rfl (by omega) (by omega) (by omega) ?_
  refine T_aload_n (v := .ref 373) d_Mo_setPoint_7 rfl (Or.inr ⟨_, rfl⟩) ?_
  refine T_iload_n d_Mo_setPoint_8 rfl ?_
  refine T_iload_n d_Mo_setPoint_9 rfl ?_
  refine N_iadd (a := 3) (b := 36) (c := 39) d_Mo_setPoint_10 rfl ?_
  refine T_iload_n d_Mo_setPoint_11 rfl ?_
  refine T_iload_n d_Mo_setPoint_12 rfl ?_
  refine N_iadd (a := 3) (b := 8) (c := 11) d_Mo_setPoint_13 rfl ?_
  have r_6 := (ke_5 11 (by decide)).trans ((ke_3 11 (by decide)).trans ((ke_1 11 (by decide)).trans (ha.2.2.2)))
  refine T_virtual (as := [.int (nI 39), .int (nI 11)]) (rest := []) (b := 373) d_Mo_setPoint_14 rfl (jw_Mo_set.jo (by decide)) lm_Mo_160 ji_Mo_set js_Mo_set hE_5.ob rfl rfl rfl (Nat.le_of_ble_eq_true rfl) (by decide) (by decide) (u_Mo_set hE_5 (by decide) (by decide) r_6) (fun r M_7 hq => ?_)
  obtain ⟨rfl, E_7, hE_7, vr_7, ke_7, kp_7⟩ := hq
  refine T_eq (pc' := 17) (L' := [(3, .int (nI 3)), (0, .ref 373), (1, .int (nI 36)), (2, .int (nI 8))]) (st' := []) (M' := M_7) rfl rfl rfl rfl ?_
  refine N_iinc (k := 3) (m := 1) (c := 4) (L' := [(3, .int (nI 4)), (0, .ref 373), (1, .int (nI 36)), (2, .int (nI 8))]) d_Mo_setPoint_17 (by decide) rfl (by decide) rfl rfl ?_
  refine T_goto (tgt := 2) d_Mo_setPoint_20 rfl ?_
  refine T_iload_n d_Mo_setPoint_2 rfl ?_
  refine T_iconst (v := nI 4) d_Mo_setPoint_3 (by decide) ?_
  refine N_icmp_ge_t (a := 4) (b := 4) d_Mo_setPoint_4 (tgt := 23) rfl (by omega) (by omega) (by omega) ?_
  have r_8 := (ke_7 36 (by decide)).trans ((ke_5 36 (by decide)).trans ((ke_3 36 (by decide)).trans (vr_1)))
  have r_9 := (ke_7 37 (by decide)).trans ((ke_5 37 (by decide)).trans (vr_3))
  have r_10 := (ke_7 38 (by decide)).trans (vr_5)
  exact T_vret d_Mo_setPoint_23 rfl (by decide) (by decide) ⟨rfl, E_7, hE_7, ⟨r_8, r_9, r_10, vr_7⟩, (KE.tr (KE.tr (KE.tr (KE.tr (KE.rf : KE [36, 37, 38, 39] E E) (KE.mono ke_1 (by decide))) (KE.mono ke_3 (by decide))) (KE.mono ke_5 (by decide))) (KE.mono ke_7 (by decide))), (Kp.tr (Kp.tr (Kp.tr (Kp.tr (Kp.rf : Kp [390, 391, 392, 393, 394] M M) (Kp.mono kp_1 (by decide))) (Kp.mono kp_3 (by decide))) (Kp.mono kp_5 (by decide))) (Kp.mono kp_7 (by decide)))⟩
set_option maxHeartbeats 8000000 in
theorem u_Mo_setP_36_12 {G : GX} {M : List va_E} {v : Nat → Int32} {E : Nat → Int} (hE : RE M v E) {X Y Z T : Int} (ha : P4 E 12 X Y Z T) : CT G mi_Mo_setPoint [.ref 373, .int (nI 36), .int (nI 12)] M (fun r M' => r = none ∧ qP4 M v E 36 X Y Z T [36, 37, 38, 39] M') := by
  refine CT.of (by decide) (Nat.le_of_ble_eq_true rfl) ?_
  show TT G mi_Mo_setPoint 0 [(0, .ref 373), (1, .int (nI 36)), (2, .int (nI 12))] [] M 0 0 _
  refine T_iconst (v := nI 0) d_Mo_setPoint_0 (by decide) ?_
  refine T_istore_n (L' := [(3, .int (nI 0)), (0, .ref 373), (1, .int (nI 36)), (2, .int (nI 12))]) d_Mo_setPoint_1 (by decide) rfl ?_
  refine T_iload_n d_Mo_setPoint_2 rfl ?_
  refine T_iconst (v := nI 4) d_Mo_setPoint_3 (by decide) ?_
  refine N_icmp_ge_f (a := 4) (b := 0) d_Mo_setPoint_4 (tgt := 23) rfl (by omega) (by omega) (by omega) ?_
  refine T_aload_n (v := .ref 373) d_Mo_setPoint_7 rfl (Or.inr ⟨_, rfl⟩) ?_
  refine T_iload_n d_Mo_setPoint_8 rfl ?_
  refine T_iload_n d_Mo_setPoint_9 rfl ?_
  refine N_iadd (a := 0) (b := 36) (c := 36) d_Mo_setPoint_10 rfl ?_
  refine T_iload_n d_Mo_setPoint_11 rfl ?_
  refine T_iload_n d_Mo_setPoint_12 rfl ?_
  refine N_iadd (a := 0) (b := 12) (c := 12) d_Mo_setPoint_13 rfl ?_
  refine T_virtual (as := [.int (nI 36), .int (nI 12)]) (rest := []) (b := 373) d_Mo_setPoint_14 rfl (jw_Mo_set.jo (by decide)) lm_Mo_160 ji_Mo_set js_Mo_set hE.ob rfl rfl rfl (Nat.le_of_ble_eq_true rfl) (by decide) (by decide) (u_Mo_set hE (by decide) (by decide) ha.1) (fun r M_1 hq => ?_)
  obtain ⟨rfl, E_1, hE_1, vr_1, ke_1, kp_1⟩ := hq
  refine T_eq (pc' := 17) (L' := [(3, .int (nI 0)), (0, .ref 373), (1, .int (nI 36)), (2, .int (nI 12))]) (st' := []) (M' := M_1) rfl rfl rfl rfl ?_
  refine N_iinc (k := 0) (m := 1) (c := 1) (L' := [(3, .int (nI 1)), (0, .ref 373), (1, .int (nI 36)), (2, .int (nI 12))]) d_Mo_setPoint_17 (by decide) rfl (by decide) rfl rfl ?_
  refine T_goto (tgt := 2) d_Mo_setPoint_20 rfl ?_
  refine T_iload_n d_Mo_setPoint_2 rfl ?_
  refine T_iconst (v := nI 4) d_Mo_setPoint_3 (by decide) ?_
  refine N_icmp_ge_f (a := 4) (b := 1) d_Mo_setPoint_4 (tgt := 23) rfl (by omega) (by omega) (by omega) ?_
  refine T_aload_n (v := .ref 373) d_Mo_setPoint_7 rfl (Or.inr ⟨_, rfl⟩) ?_
  refine T_iload_n d_Mo_setPoint_8 rfl ?_
  refine T_iload_n d_Mo_setPoint_9 rfl ?_
  refine N_iadd (a := 1) (b := 36) (c := 37) d_Mo_setPoint_10 rfl ?_
  refine T_iload_n d_Mo_setPoint_11 rfl ?_
  refine T_iload_n d_Mo_setPoint_12 rfl ?_
  refine N_iadd (a := 1) (b := 12) (c := 13) d_Mo_setPoint_13 rfl ?_
  have r_2 := (ke_1 13 (by decide)).trans (ha.2.1)
  refine T_virtual (as := [.int (nI 37), .int (nI 13)]) (rest := []) (b := 373) d_Mo_setPoint_14 rfl (jw_Mo_set.jo (by decide)) lm_Mo_160 ji_Mo_set js_Mo_set hE_1.ob rfl rfl rfl (Nat.le_of_ble_eq_true rfl) (by decide) (by decide) (u_Mo_set hE_1 (by decide) (by decide) r_2) (fun r M_3 hq => ?_)
  obtain ⟨rfl, E_3, hE_3, vr_3, ke_3, kp_3⟩ := hq
  refine T_eq (pc' := 17) (L' := [(3, .int (nI 1)), (0, .ref 373), (1, .int (nI 36)), (2, .int (nI 12))]) (st' := []) (M' := M_3) rfl rfl rfl rfl ?_
  refine N_iinc (k := 1) (m := 1) (c := 2) (L' := [(3, .int (nI 2)), (0, .ref 373), (1, .int (nI 36)), (2, .int (nI 12))]) d_Mo_setPoint_17 (by decide) rfl (by decide) rfl rfl ?_
  refine T_goto (tgt := 2) d_Mo_setPoint_20 rfl ?_
  refine T_iload_n d_Mo_setPoint_2 rfl ?_
  refine T_iconst (v := nI 4) d_Mo_setPoint_3 (by decide) ?_
  refine N_icmp_ge_f (a := 4) (b := 2) d_Mo_setPoint_4 (tgt := 23) rfl (by omega) (by omega) (by omega) ?_
  refine T_aload_n (v := .ref 373) d_Mo_setPoint_7 rfl (Or.inr ⟨_, rfl⟩) ?_
  refine T_iload_n d_Mo_setPoint_8 rfl ?_
  refine T_iload_n d_Mo_setPoint_9 rfl ?_
  refine N_iadd (a := 2) (b := 36) (c := 38) d_Mo_setPoint_10 rfl ?_
  refine T_iload_n d_Mo_setPoint_11 rfl ?_
  refine T_iload_n d_Mo_setPoint_12 rfl ?_
  refine N_iadd (a := 2) (b := 12) (c := 14) d_Mo_setPoint_13 rfl ?_
  have r_4 := (ke_3 14 (by decide)).trans ((ke_1 14 (by decide)).trans (ha.2.2.1))
  refine T_virtual (as := [.int (nI 38), .int (nI 14)]) (rest := []) (b := 373) d_Mo_setPoint_14 rfl (jw_Mo_set.jo (by decide)) lm_Mo_160 ji_Mo_set js_Mo_set hE_3.ob rfl rfl rfl (Nat.le_of_ble_eq_true rfl) (by decide) (by decide) (u_Mo_set hE_3 (by decide) (by decide) r_4) (fun r M_5 hq => ?_)
  obtain ⟨rfl, E_5, hE_5, vr_5, ke_5, kp_5⟩ := hq
  refine T_eq (pc' := 17) (L' := [(3, .int (nI 2)), (0, .ref 373), (1, .int (nI 36)), (2, .int (nI 12))]) (st' := []) (M' := M_5) rfl rfl rfl rfl ?_
  refine N_iinc (k := 2) (m := 1) (c := 3) (L' := [(3, .int (nI 3)), (0, .ref 373), (1, .int (nI 36)), (2, .int (nI 12))]) d_Mo_setPoint_17 (by decide) rfl (by decide) rfl rfl ?_
  refine T_goto (tgt := 2) d_Mo_setPoint_20 rfl ?_
  refine T_iload_n d_Mo_setPoint_2 rfl ?_
  refine T_iconst (v := nI 4) d_Mo_setPoint_3 (by decide) ?_
  refine N_icmp_ge_f (a := 4) (b := 3) d_Mo_setPoint_4 (tgt := 23) rfl (by omega) (by omega) (by omega) ?_
  refine T_aload_n (v := .ref 373) d_Mo_setPoint_7 rfl (Or.inr ⟨_, rfl⟩) ?_
  refine T_iload_n d_Mo_setPoint_8 rfl ?_
  refine T_iload_n d_Mo_setPoint_9 rfl ?_
  refine N_iadd (a := 3) (b := 36) (c := 39) d_Mo_setPoint_10 rfl ?_
  refine T_iload_n d_Mo_setPoint_11 rfl ?_
  refine T_iload_n d_Mo_setPoint_12 rfl ?_
  refine N_iadd (a := 3) (b := 12) (c := 15) d_Mo_setPoint_13 rfl ?_
  have r_6 := (ke_5 15 (by decide)).trans ((ke_3 15 (by decide)).trans ((ke_1 15 (by decide)).trans (ha.2.2.2)))
  refine T_virtual (as := [.int (nI 39), .int (nI 15)]) (rest := []) (b := 373) d_Mo_setPoint_14 rfl (jw_Mo_set.jo (by decide)) lm_Mo_160 ji_Mo_set js_Mo_set hE_5.ob rfl rfl rfl (Nat.le_of_ble_eq_true rfl) (by decide) (by decide) (u_Mo_set hE_5 (by decide) (by decide) r_6) (fun r M_7 hq => ?_)
  obtain ⟨rfl, E_7, hE_7, vr_7, ke_7, kp_7⟩ := hq
  refine T_eq (pc' := 17) (L' := [(3, .int (nI 3)), (0, .ref 373), (1, .int (nI 36)), (2, .int (nI 12))]) (st' := []) (M' := M_7) rfl rfl rfl rfl ?_
  refine N_iinc (k := 3) (m := 1) (c := 4) (L' := [(3, .int (nI 4)), (0, .ref 373), (1, .int (nI 36)), (2, .int (nI 12))]) d_Mo_setPoint_17 (by decide) rfl (by decide) rfl rfl ?_
  refine T_goto (tgt := 2) d_Mo_setPoint_20 rfl ?_
  refine T_iload_n d_Mo_setPoint_2 rfl ?_
  refine T_iconst (v := nI 4) d_Mo_setPoint_3 (by decide) ?_
  refine N_icmp_ge_t (a := 4) (b := 4) d_Mo_setPoint_4 (tgt := 23) rfl (by omega) (by omega) (by omega) ?_
  have r_8 := (ke_7 36 (by decide)).trans ((ke_5 36 (by decide)).trans ((ke_3 36 (by decide)).trans (vr_1)))
  have r_9 := (ke_7 37 (by decide)).trans ((ke_5 37 (by decide)).trans (vr_3))
  have r_10 := (ke_7 38 (by decide)).trans (vr_5)
  exact T_vret d_Mo_setPoint_23 rfl (by decide) (by decide) ⟨rfl, E_7, hE_7, ⟨r_8, r_9, r_10, vr_7⟩, (KE.tr (KE.tr (KE.tr (KE.tr (KE.rf : KE [36, 37, 38, 39] E E) (KE.mono ke_1 (by decide))) (KE.mono ke_3 (by decide))) (KE.mono ke_5 (by decide))) (KE.mono ke_7 (by decide))), (Kp.tr (Kp.tr (Kp.tr (Kp.tr (Kp.rf : Kp [390, 391, 392, 393, 394] M M) (Kp.mono kp_1 (by decide))) (Kp.mono kp_3 (by decide))) (Kp.mono kp_5 (by decide))) (Kp.mono kp_7 (by decide)))⟩
set_option maxHeartbeats 8000000 in
theorem u_Mo_setP_12_32 {G : GX} {M : List va_E} {v : Nat → Int32} {E : Nat → Int} (hE : RE M v E) {X Y Z T : Int} (ha : P4 E 32 X Y Z T) : CT G mi_Mo_setPoint [.ref 373, .int (nI 12), .int (nI 32)] M (fun r M' => r = none ∧ qP4 M v E 12 X Y Z T [12, 13, 14, 15] M') := by
  refine CT.of (by decide) (Nat.le_of_ble_eq_true rfl) ?_
  show TT G mi_Mo_setPoint 0 [(0, .ref 373), (1, .int (nI 12)), (2, .int (nI 32))] [] M 0 0 _
  refine T_iconst (v := nI 0) d_Mo_setPoint_0 (by decide) ?_
  refine T_istore_n (L' := [(3, .int (nI 0)), (0, .ref 373), (1, .int (nI 12)), (2, .int (nI 32))]) d_Mo_setPoint_1 (by decide) rfl ?_
  refine T_iload_n d_Mo_setPoint_2 rfl ?_
  refine T_iconst (v := nI 4) d_Mo_setPoint_3 (by decide) ?_
  refine N_icmp_ge_f (a := 4) (b := 0) d_Mo_setPoint_4 (tgt := 23) rfl (by omega) (by omega) (by omega) ?_
  refine T_aload_n (v := .ref 373) d_Mo_setPoint_7 rfl (Or.inr ⟨_, rfl⟩) ?_
  refine T_iload_n d_Mo_setPoint_8 rfl ?_
  refine T_iload_n d_Mo_setPoint_9 rfl ?_
  refine N_iadd (a := 0) (b := 12) (c := 12) d_Mo_setPoint_10 rfl ?_
  refine T_iload_n d_Mo_setPoint_11 rfl ?_
  refine T_iload_n d_Mo_setPoint_12 rfl ?_
  refine N_iadd (a := 0) (b := 32) (c := 32) d_Mo_setPoint_13 rfl ?_
  refine T_virtual (as := [.int (nI 12), .int (nI 32)]) (rest := []) (b := 373) d_Mo_setPoint_14 rfl (jw_Mo_set.jo (by decide)) lm_Mo_160 ji_Mo_set js_Mo_set hE.ob rfl rfl rfl (Nat.le_of_ble_eq_true rfl) (by decide) (by decide) (u_Mo_set hE (by decide) (by decide) ha.1) (fun r M_1 hq => ?_)
  obtain ⟨rfl, E_1, hE_1, vr_1, ke_1, kp_1⟩ := hq
  refine T_eq (pc' := 17) (L' := [(3, .int (nI 0)), (0, .ref 373), (1, .int (nI 12)), (2, .int (nI 32))]) (st' := []) (M' := M_1) rfl rfl rfl rfl ?_
  refine N_iinc (k := 0) (m := 1) (c := 1) (L' := [(3, .int (nI 1)), (0, .ref 373), (1, .int (nI 12)), (2, .int (nI 32))]) d_Mo_setPoint_17 (by decide) rfl (by decide) rfl rfl ?_
  refine T_goto (tgt := 2) d_Mo_setPoint_20 rfl ?_
  refine T_iload_n d_Mo_setPoint_2 rfl ?_
  refine T_iconst (v := nI 4) d_Mo_setPoint_3 (by decide) ?_
  refine N_icmp_ge_f (a := 4) (b := 1) d_Mo_setPoint_4 (tgt := 23) rfl (by omega) (by omega) (by omega) ?_
  refine T_aload_n (v := .ref 373) d_Mo_setPoint_7 rfl (Or.inr ⟨_, rfl⟩) ?_
  refine T_iload_n d_Mo_setPoint_8 rfl ?_
  refine T_iload_n d_Mo_setPoint_9 rfl ?_
  refine N_iadd (a := 1) (b := 12) (c := 13) d_Mo_setPoint_10 rfl ?_
  refine T_iload_n d_Mo_setPoint_11 rfl ?_
  refine T_iload_n d_Mo_setPoint_12 rfl ?_
  refine N_iadd (a := 1) (b := 32) (c := 33) d_Mo_setPoint_13 rfl ?_
  have r_2 := (ke_1 33 (by decide)).trans (ha.2.1)
  refine T_virtual (as := [.int (nI 13), .int (nI 33)]) (rest := []) (b := 373) d_Mo_setPoint_14 rfl (jw_Mo_set.jo (by decide)) lm_Mo_160 ji_Mo_set js_Mo_set hE_1.ob rfl rfl rfl (Nat.le_of_ble_eq_true rfl) (by decide) (by decide) (u_Mo_set hE_1 (by decide) (by decide) r_2) (fun r M_3 hq => ?_)
  obtain ⟨rfl, E_3, hE_3, vr_3, ke_3, kp_3⟩ := hq
  refine T_eq (pc' := 17) (L' := [(3, .int (nI 1)), (0, .ref 373), (1, .int (nI 12)), (2, .int (nI 32))]) (st' := []) (M' := M_3) rfl rfl rfl rfl ?_
  refine N_iinc (k := 1) (m := 1) (c := 2) (L' := [(3, .int (nI 2)), (0, .ref 373), (1, .int (nI 12)), (2, .int (nI 32))]) d_Mo_setPoint_17 (by decide) rfl (by decide) rfl rfl ?_
  refine T_goto (tgt := 2) d_Mo_setPoint_20 rfl ?_
  refine T_iload_n d_Mo_setPoint_2 rfl ?_
  refine T_iconst (v := nI 4) d_Mo_setPoint_3 (by decide) ?_
  refine N_icmp_ge_f (a := 4) (b := 2) d_Mo_setPoint_4 (tgt := 23) rfl (by omega) (by omega) (by omega) ?_
  refine T_aload_n (v := .ref 373) d_Mo_setPoint_7 rfl (Or.inr ⟨_, rfl⟩) ?_
  refine T_iload_n d_Mo_setPoint_8 rfl ?_
  refine T_iload_n d_Mo_setPoint_9 rfl ?_
  refine N_iadd (a := 2) (b := 12) (c := 14) d_Mo_setPoint_10 rfl ?_
  refine T_iload_n d_Mo_setPoint_11 rfl ?_
  refine T_iload_n d_Mo_setPoint_12 rfl ?_
  refine N_iadd (a := 2) (b := 32) (c := 34) d_Mo_setPoint_13 rfl ?_
  have r_4 := (ke_3 34 (by decide)).trans ((ke_1 34 (by decide)).trans (ha.2.2.1))
  refine T_virtual (as := [.int (nI 14), .int (nI 34)]) (rest := []) (b := 373) d_Mo_setPoint_14 rfl (jw_Mo_set.jo (by decide)) lm_Mo_160 ji_Mo_set js_Mo_set hE_3.ob rfl rfl rfl (Nat.le_of_ble_eq_true rfl) (by decide) (by decide) (u_Mo_set hE_3 (by decide) (by decide) r_4) (fun r M_5 hq => ?_)
  obtain ⟨rfl, E_5, hE_5, vr_5, ke_5, kp_5⟩ := hq
  refine T_eq (pc' := 17) (L' := [(3, .int (nI 2)), (0, .ref 373), (1, .int (nI 12)), (2, .int (nI 32))]) (st' := []) (M' := M_5) rfl rfl rfl rfl ?_
  refine N_iinc (k := 2) (m := 1) (c := 3) (L' := [(3, .int (nI 3)), (0, .ref 373), (1, .int (nI 12)), (2, .int (nI 32))]) d_Mo_setPoint_17 (by decide) rfl (by decide) rfl rfl ?_
  refine T_goto (tgt := 2) d_Mo_setPoint_20 rfl ?_
  refine T_iload_n d_Mo_setPoint_2 rfl ?_
  refine T_iconst (v := nI 4) d_Mo_setPoint_3 (by decide) ?_
  refine N_icmp_ge_f (a := 4) (b := 3) d_Mo_setPoint_4 (tgt := 23) rfl (by omega) (by omega) (by omega) ?_
  refine T_aload_n (v := .ref 373) d_Mo_setPoint_7 rfl (Or.inr ⟨_, rfl⟩) ?_
  refine T_iload_n d_Mo_setPoint_8 rfl ?_
  refine T_iload_n d_Mo_setPoint_9 rfl ?_
  refine N_iadd (a := 3) (b := 12) (c := 15) d_Mo_setPoint_10 rfl ?_
  refine T_iload_n d_Mo_setPoint_11 rfl ?_
  refine T_iload_n d_Mo_setPoint_12 rfl ?_
  refine N_iadd (a := 3) (b := 32) (c := 35) d_Mo_setPoint_13 rfl ?_
  have r_6 := (ke_5 35 (by decide)).trans ((ke_3 35 (by decide)).trans ((ke_1 35 (by decide)).trans (ha.2.2.2)))
  refine T_virtual (as := [.int (nI 15), .int (nI 35)]) (rest := []) (b := 373) d_Mo_setPoint_14 rfl (jw_Mo_set.jo (by decide)) lm_Mo_160 ji_Mo_set js_Mo_set hE_5.ob rfl rfl rfl (Nat.le_of_ble_eq_true rfl) (by decide) (by decide) (u_Mo_set hE_5 (by decide) (by decide) r_6) (fun r M_7 hq => ?_)
  obtain ⟨rfl, E_7, hE_7, vr_7, ke_7, kp_7⟩ := hq
  refine T_eq (pc' := 17) (L' := [(3, .int (nI 3)), (0, .ref 373), (1, .int (nI 12)), (2, .int (nI 32))]) (st' := []) (M' := M_7) rfl rfl rfl rfl ?_
  refine N_iinc (k := 3) (m := 1) (c := 4) (L' := [(3, .int (nI 4)), (0, .ref 373), (1, .int (nI 12)), (2, .int (nI 32))]) d_Mo_setPoint_17 (by decide) rfl (by decide) rfl rfl ?_
  refine T_goto (tgt := 2) d_Mo_setPoint_20 rfl ?_
  refine T_iload_n d_Mo_setPoint_2 rfl ?_
  refine T_iconst (v := nI 4) d_Mo_setPoint_3 (by decide) ?_
  refine N_icmp_ge_t (a := 4) (b := 4) d_Mo_setPoint_4 (tgt := 23) rfl (by omega) (by omega) (by omega) ?_
  have r_8 := (ke_7 12 (by decide)).trans ((ke_5 12 (by decide)).trans ((ke_3 12 (by decide)).trans (vr_1)))
  have r_9 := (ke_7 13 (by decide)).trans ((ke_5 13 (by decide)).trans (vr_3))
  have r_10 := (ke_7 14 (by decide)).trans (vr_5)
  exact T_vret d_Mo_setPoint_23 rfl (by decide) (by decide) ⟨rfl, E_7, hE_7, ⟨r_8, r_9, r_10, vr_7⟩, (KE.tr (KE.tr (KE.tr (KE.tr (KE.rf : KE [12, 13, 14, 15] E E) (KE.mono ke_1 (by decide))) (KE.mono ke_3 (by decide))) (KE.mono ke_5 (by decide))) (KE.mono ke_7 (by decide))), (Kp.tr (Kp.tr (Kp.tr (Kp.tr (Kp.rf : Kp [390, 391, 392, 393, 394] M M) (Kp.mono kp_1 (by decide))) (Kp.mono kp_3 (by decide))) (Kp.mono kp_5 (by decide))) (Kp.mono kp_7 (by decide)))⟩
set_option maxHeartbeats 8000000 in
theorem u_Mo_setP_16_32 {G : GX} {M : List va_E} {v : Nat → Int32} {E : Nat → Int} (hE : RE M v E) {X Y Z T : Int} (ha : P4 E 32 X Y Z T) : CT G mi_Mo_setPoint [.ref 373, .int (nI 16), .int (nI 32)] M (fun r M' => r = none ∧ qP4 M v E 16 X Y Z T [16, 17, 18, 19] M') := by
  refine CT.of (by decide) (Nat.le_of_ble_eq_true rfl) ?_
  show TT G mi_Mo_setPoint 0 [(0, .ref 373), (1, .int (nI 16)), (2, .int (nI 32))] [] M 0 0 _
  refine T_iconst (v := nI 0) d_Mo_setPoint_0 (by decide) ?_
  refine T_istore_n (L' := [(3, .int (nI 0)), (0, .ref 373), (1, .int (nI 16)), (2, .int (nI 32))]) d_Mo_setPoint_1 (by decide) rfl ?_
  refine T_iload_n d_Mo_setPoint_2 rfl ?_
  refine T_iconst (v := nI 4) d_Mo_setPoint_3 (by decide) ?_
  refine N_icmp_ge_f (a := 4) (b := 0) d_Mo_setPoint_4 (tgt := 23) rfl (by omega) (by omega) (by omega) ?_
  refine T_aload_n (v := .ref 373) d_Mo_setPoint_7 rfl (Or.inr ⟨_, rfl⟩) ?_
  refine T_iload_n d_Mo_setPoint_8 rfl ?_
  refine T_iload_n d_Mo_setPoint_9 rfl ?_
  refine N_iadd (a := 0) (b := 16) (c := 16) d_Mo_setPoint_10 rfl ?_
  refine T_iload_n d_Mo_setPoint_11 rfl ?_
  refine T_iload_n d_Mo_setPoint_12 rfl ?_
  refine N_iadd (a := 0) (b := 32) (c := 32) d_Mo_setPoint_13 rfl ?_
  refine T_virtual (as := [.int (nI 16), .int (nI 32)]) (rest := []) (b := 373) d_Mo_setPoint_14 rfl (jw_Mo_set.jo (by decide)) lm_Mo_160 ji_Mo_set js_Mo_set hE.ob rfl rfl rfl (Nat.le_of_ble_eq_true rfl) (by decide) (by decide) (u_Mo_set hE (by decide) (by decide) ha.1) (fun r M_1 hq => ?_)
  obtain ⟨rfl, E_1, hE_1, vr_1, ke_1, kp_1⟩ := hq
  refine T_eq (pc' := 17) (L' := [(3, .int (nI 0)), (0, .ref 373), (1, .int (nI 16)), (2, .int (nI 32))]) (st' := []) (M' := M_1) rfl rfl rfl rfl ?_
  refine N_iinc (k := 0) (m := 1) (c := 1) (L' := [(3, .int (nI 1)), (0, .ref 373), (1, .int (nI 16)), (2, .int (nI 32))]) d_Mo_setPoint_17 (by decide) rfl (by decide) rfl rfl ?_
  refine T_goto (tgt := 2) d_Mo_setPoint_20 rfl ?_
  refine T_iload_n d_Mo_setPoint_2 rfl ?_
  refine T_iconst (v := nI 4) d_Mo_setPoint_3 (by decide) ?_
  refine N_icmp_ge_f (a := 4) (b := 1) d_Mo_setPoint_4 (tgt := 23) rfl (by omega) (by omega) (by omega) ?_
  refine T_aload_n (v := .ref 373) d_Mo_setPoint_7 rfl (Or.inr ⟨_, rfl⟩) ?_
  refine T_iload_n d_Mo_setPoint_8 rfl ?_
  refine T_iload_n d_Mo_setPoint_9 rfl ?_
  refine N_iadd (a := 1) (b := 16) (c := 17) d_Mo_setPoint_10 rfl ?_
  refine T_iload_n d_Mo_setPoint_11 rfl ?_
  refine T_iload_n d_Mo_setPoint_12 rfl ?_
  refine N_iadd (a := 1) (b := 32) (c := 33) d_Mo_setPoint_13 rfl ?_
  have r_2 := (ke_1 33 (by decide)).trans (ha.2.1)
  refine T_virtual (as := [.int (nI 17), .int (nI 33)]) (rest := []) (b := 373) d_Mo_setPoint_14 rfl (jw_Mo_set.jo (by decide)) lm_Mo_160 ji_Mo_set js_Mo_set hE_1.ob rfl rfl rfl (Nat.le_of_ble_eq_true rfl) (by decide) (by decide) (u_Mo_set hE_1 (by decide) (by decide) r_2) (fun r M_3 hq => ?_)
  obtain ⟨rfl, E_3, hE_3, vr_3, ke_3, kp_3⟩ := hq
  refine T_eq (pc' := 17) (L' := [(3, .int (nI 1)), (0, .ref 373), (1, .int (nI 16)), (2, .int (nI 32))]) (st' := []) (M' := M_3) rfl rfl rfl rfl ?_
  refine N_iinc (k := 1) (m := 1) (c := 2) (L' := [(3, .int (nI 2)), (0, .ref 373), (1, .int (nI 16)), (2, .int (nI 32))]) d_Mo_setPoint_17 (by decide) rfl (by decide) rfl rfl ?_
  refine T_goto (tgt := 2) d_Mo_setPoint_20 rfl ?_
  refine T_iload_n d_Mo_setPoint_2 rfl ?_
  refine T_iconst (v := nI 4) d_Mo_setPoint_3 (by decide) ?_
  refine N_icmp_ge_f (a := 4) (b := 2) d_Mo_setPoint_4 (tgt := 23) rfl (by omega) (by omega) (by omega) ?_
  refine T_aload_n (v := .ref 373) d_Mo_setPoint_7 rfl (Or.inr ⟨_, rfl⟩) ?_
  refine T_iload_n d_Mo_setPoint_8 rfl ?_
  refine T_iload_n d_Mo_setPoint_9 rfl ?_
  refine N_iadd (a := 2) (b := 16) (c := 18) d_Mo_setPoint_10 rfl ?_
  refine T_iload_n d_Mo_setPoint_11 rfl ?_
  refine T_iload_n d_Mo_setPoint_12 rfl ?_
  refine N_iadd (a := 2) (b := 32) (c := 34) d_Mo_setPoint_13 rfl ?_
  have r_4 := (ke_3 34 (by decide)).trans ((ke_1 34 (by decide)).trans (ha.2.2.1))
  refine T_virtual (as := [.int (nI 18), .int (nI 34)]) (rest := []) (b := 373) d_Mo_setPoint_14 rfl (jw_Mo_set.jo (by decide)) lm_Mo_160 ji_Mo_set js_Mo_set hE_3.ob rfl rfl rfl (Nat.le_of_ble_eq_true rfl) (by decide) (by decide) (u_Mo_set hE_3 (by decide) (by decide) r_4) (fun r M_5 hq => ?_)
  obtain ⟨rfl, E_5, hE_5, vr_5, ke_5, kp_5⟩ := hq
  refine T_eq (pc' := 17) (L' := [(3, .int (nI 2)), (0, .ref 373), (1, .int (nI 16)), (2, .int (nI 32))]) (st' := []) (M' := M_5) rfl rfl rfl rfl ?_
  refine N_iinc (k := 2) (m := 1) (c := 3) (L' := [(3, .int (nI 3)), (0, .ref 373), (1, .int (nI 16)), (2, .int (nI 32))]) d_Mo_setPoint_17 (by decide) rfl (by decide) rfl rfl ?_
  refine T_goto (tgt := 2) d_Mo_setPoint_20 rfl ?_
  refine T_iload_n d_Mo_setPoint_2 rfl ?_
  refine T_iconst (v := nI 4) d_Mo_setPoint_3 (by decide) ?_
  refine N_icmp_ge_f (a := 4) (b := 3) d_Mo_setPoint_4 (tgt := 23) rfl (by omega) (by omega) (by omega) ?_
  refine T_aload_n (v := .ref 373) d_Mo_setPoint_7 rfl (Or.inr ⟨_, rfl⟩) ?_
  refine T_iload_n d_Mo_setPoint_8 rfl ?_
  refine T_iload_n d_Mo_setPoint_9 rfl ?_
  refine N_iadd (a := 3) (b := 16) (c := 19) d_Mo_setPoint_10 rfl ?_
  refine T_iload_n d_Mo_setPoint_11 rfl ?_
  refine T_iload_n d_Mo_setPoint_12 rfl ?_
  refine N_iadd (a := 3) (b := 32) (c := 35) d_Mo_setPoint_13 rfl ?_
  have r_6 := (ke_5 35 (by decide)).trans ((ke_3 35 (by decide)).trans ((ke_1 35 (by decide)).trans (ha.2.2.2)))
  refine T_virtual (as := [.int (nI 19), .int (nI 35)]) (rest := []) (b := 373) d_Mo_setPoint_14 rfl (jw_Mo_set.jo (by decide)) lm_Mo_160 ji_Mo_set js_Mo_set hE_5.ob rfl rfl rfl (Nat.le_of_ble_eq_true rfl) (by decide) (by decide) (u_Mo_set hE_5 (by decide) (by decide) r_6) (fun r M_7 hq => ?_)
  obtain ⟨rfl, E_7, hE_7, vr_7, ke_7, kp_7⟩ := hq
  refine T_eq (pc' := 17) (L' := [(3, .int (nI 3)), (0, .ref 373), (1, .int (nI 16)), (2, .int (nI 32))]) (st' := []) (M' := M_7) rfl rfl rfl rfl ?_
  refine N_iinc (k := 3) (m := 1) (c := 4) (L' := [(3, .int (nI 4)), (0, .ref 373), (1, .int (nI 16)), (2, .int (nI 32))]) d_Mo_setPoint_17 (by decide) rfl (by decide) rfl rfl ?_
  refine T_goto (tgt := 2) d_Mo_setPoint_20 rfl ?_
  refine T_iload_n d_Mo_setPoint_2 rfl ?_
  refine T_iconst (v := nI 4) d_Mo_setPoint_3 (by decide) ?_
  refine N_icmp_ge_t (a := 4) (b := 4) d_Mo_setPoint_4 (tgt := 23) rfl (by omega) (by omega) (by omega) ?_
  have r_8 := (ke_7 16 (by decide)).trans ((ke_5 16 (by decide)).trans ((ke_3 16 (by decide)).trans (vr_1)))
  have r_9 := (ke_7 17 (by decide)).trans ((ke_5 17 (by decide)).trans (vr_3))
  have r_10 := (ke_7 18 (by decide)).trans (vr_5)
  exact T_vret d_Mo_setPoint_23 rfl (by decide) (by decide) ⟨rfl, E_7, hE_7, ⟨r_8, r_9, r_10, vr_7⟩, (KE.tr (KE.tr (KE.tr (KE.tr (KE.rf : KE [16, 17, 18, 19] E E) (KE.mono ke_1 (by decide))) (KE.mono ke_3 (by decide))) (KE.mono ke_5 (by decide))) (KE.mono ke_7 (by decide))), (Kp.tr (Kp.tr (Kp.tr (Kp.tr (Kp.rf : Kp [390, 391, 392, 393, 394] M M) (Kp.mono kp_1 (by decide))) (Kp.mono kp_3 (by decide))) (Kp.mono kp_5 (by decide))) (Kp.mono kp_7 (by decide)))⟩
set_option maxHeartbeats 8000000 in
theorem u_Mo_zero_32 {G : GX} {M : List va_E} {v : Nat → Int32} {E : Nat → Int} (hE : RE M v E) : CT G mi_Mo_zeroPoint [.ref 373, .int (nI 32)] M (fun r M' => r = none ∧ qP4 M v E 32 0 1 1 0 [32, 33, 34, 35] M') := by
  refine CT.of (by decide) (Nat.le_of_ble_eq_true rfl) ?_
  show TT G mi_Mo_zeroPoint 0 [(0, .ref 373), (1, .int (nI 32))] [] M 0 0 _
  refine T_aload_n (v := .ref 373) d_Mo_zeroPoint_0 rfl (Or.inr ⟨_, rfl⟩) ?_
  refine T_iload_n d_Mo_zeroPoint_1 rfl ?_
  refine T_iconst (v := nI 0) d_Mo_zeroPoint_2 (by decide) ?_
  refine T_virtual (as := [.int (nI 32), .int (nI 0)]) (rest := []) (b := 373) d_Mo_zeroPoint_3 rfl (jw_Mo_small.jo (by decide)) lm_Mo_179 ji_Mo_small js_Mo_small hE.ob rfl rfl rfl (Nat.le_of_ble_eq_true rfl) (by decide) (by decide) (u_Mo_small hE (by decide) (x := 0) (by decide)) (fun r M_1 hq => ?_)
  obtain ⟨rfl, E_1, hE_1, vr_1, ke_1, kp_1⟩ := hq
  refine T_eq (pc' := 6) (L' := [(0, .ref 373), (1, .int (nI 32))]) (st' := []) (M' := M_1) rfl rfl rfl rfl ?_
  refine T_aload_n (v := .ref 373) d_Mo_zeroPoint_6 rfl (Or.inr ⟨_, rfl⟩) ?_
  refine T_iload_n d_Mo_zeroPoint_7 rfl ?_
  refine T_iconst (v := nI 1) d_Mo_zeroPoint_8 (by decide) ?_
  refine N_iadd (a := 1) (b := 32) (c := 33) d_Mo_zeroPoint_9 rfl ?_
  refine T_iconst (v := nI 1) d_Mo_zeroPoint_10 (by decide) ?_
  refine T_virtual (as := [.int (nI 33), .int (nI 1)]) (rest := []) (b := 373) d_Mo_zeroPoint_11 rfl (jw_Mo_small.jo (by decide)) lm_Mo_179 ji_Mo_small js_Mo_small hE_1.ob rfl rfl rfl (Nat.le_of_ble_eq_true rfl) (by decide) (by decide) (u_Mo_small hE_1 (by decide) (x := 1) (by decide)) (fun r M_2 hq => ?_)
  obtain ⟨rfl, E_2, hE_2, vr_2, ke_2, kp_2⟩ := hq
  refine T_eq (pc' := 14) (L' := [(0, .ref 373), (1, .int (nI 32))]) (st' := []) (M' := M_2) rfl rfl rfl rfl ?_
  refine T_aload_n (v := .ref 373) d_Mo_zeroPoint_14 rfl (Or.inr ⟨_, rfl⟩) ?_
  refine T_iload_n d_Mo_zeroPoint_15 rfl ?_
  refine T_iconst (v := nI 2) d_Mo_zeroPoint_16 (by decide) ?_
  refine N_iadd (a := 2) (b := 32) (c := 34) d_Mo_zeroPoint_17 rfl ?_
  refine T_iconst (v := nI 1) d_Mo_zeroPoint_18 (by decide) ?_
  refine T_virtual (as := [.int (nI 34), .int (nI 1)]) (rest := []) (b := 373) d_Mo_zeroPoint_19 rfl (jw_Mo_small.jo (by decide)) lm_Mo_179 ji_Mo_small js_Mo_small hE_2.ob rfl rfl rfl (Nat.le_of_ble_eq_true rfl) (by decide) (by decide) (u_Mo_small hE_2 (by decide) (x := 1) (by decide)) (fun r M_3 hq => ?_)
  obtain ⟨rfl, E_3, hE_3, vr_3, ke_3, kp_3⟩ := hq
  refine T_eq (pc' := 22) (L' := [(0, .ref 373), (1, .int (nI 32))]) (st' := []) (M' := M_3) rfl rfl rfl rfl ?_
  refine T_aload_n (v := .ref 373) d_Mo_zeroPoint_22 rfl (Or.inr ⟨_, rfl⟩) ?_
  refine T_iload_n d_Mo_zeroPoint_23 rfl ?_
  refine T_iconst (v := nI 3) d_Mo_zeroPoint_24 (by decide) ?_
  refine N_iadd (a := 3) (b := 32) (c := 35) d_Mo_zeroPoint_25 rfl ?_
  refine T_iconst (v := nI 0) d_Mo_zeroPoint_26 (by decide) ?_
  refine T_virtual (as := [.int (nI 35), .int (nI 0)]) (rest := []) (b := 373) d_Mo_zeroPoint_27 rfl (jw_Mo_small.jo (by decide)) lm_Mo_179 ji_Mo_small js_Mo_small hE_3.ob rfl rfl rfl (Nat.le_of_ble_eq_true rfl) (by decide) (by decide) (u_Mo_small hE_3 (by decide) (x := 0) (by decide)) (fun r M_4 hq => ?_)
  obtain ⟨rfl, E_4, hE_4, vr_4, ke_4, kp_4⟩ := hq
  refine T_eq (pc' := 30) (L' := [(0, .ref 373), (1, .int (nI 32))]) (st' := []) (M' := M_4) rfl rfl rfl rfl ?_
  have r_5 := (ke_4 32 (by decide)).trans ((ke_3 32 (by decide)).trans ((ke_2 32 (by decide)).trans (vr_1)))
  have r_6 := (ke_4 33 (by decide)).trans ((ke_3 33 (by decide)).trans (vr_2))
  have r_7 := (ke_4 34 (by decide)).trans (vr_3)
  exact T_vret d_Mo_zeroPoint_30 rfl (by decide) (by decide) ⟨rfl, E_4, hE_4, ⟨r_5, r_6, r_7, vr_4⟩, (KE.tr (KE.tr (KE.tr (KE.tr (KE.rf : KE [32, 33, 34, 35] E E) (KE.mono ke_1 (by decide))) (KE.mono ke_2 (by decide))) (KE.mono ke_3 (by decide))) (KE.mono ke_4 (by decide))), (Kp.tr (Kp.tr (Kp.tr (Kp.tr (Kp.rf : Kp [390, 391, 392, 393, 394] M M) (Kp.mono kp_1 (by decide))) (Kp.mono kp_2 (by decide))) (Kp.mono kp_3 (by decide))) (Kp.mono kp_4 (by decide)))⟩
def unw (b : Nat → Nat) (i : Nat) : Int64 := (nI (b (2 * i))).toInt64 + 256 * (nI (b (2 * i + 1))).toInt64
theorem unw_i {b : Nat → Nat} (hb : ∀ k, k < 32 → b k < 256) {i : Nat} (hi : i < 16) : (unw b i).toInt = (b (2 * i) : Int) + 256 * (b (2 * i + 1) : Int) := by
  have h1 := hb (2 * i) (by omega)
  have h2 := hb (2 * i + 1) (by omega)
  have e : ∀ n, n < 256 → (nI n).toInt64.toInt = (n : Int) := fun n hn => by rw [Int32.toInt_toInt64, nI_toInt (by omega)]
  unfold unw
  have : (nI (b (2 * i))).toInt64 + 256 * (nI (b (2 * i + 1))).toInt64 = Int64.ofInt ((b (2 * i) : Int) + 256 * (b (2 * i + 1) : Int)) := by
    rw [Int64.ofInt_add, Int64.ofInt_mul, ← e _ h1, ← e _ h2, Int64.ofInt_toInt, Int64.ofInt_toInt]; rfl
  rw [this, oi_to (by omega) (by omega)]
theorem un_num (b : Nat → Int) : sumV (fun k => b (2 * k) + 256 * b (2 * k + 1)) 16 = num32 b := by
  simp only [sumV, num32, Nat.reduceMul, Nat.reduceAdd]; omega
set_option maxHeartbeats 8000000 in
theorem un_V {F : Nat → Int64} {d : Nat} {b : Nat → Nat} (hb : ∀ k, k < 32 → b k < 256) : V16 (vp_updL (cpF F (16 * d) 16 (fun i => unw b i)) (16 * d + 15) (unw b 15 &&& 32767)) d (num32 (fun k => (b k : Int)) % n255) := by
  have w15 : (unw b 15).toInt = (b 30 : Int) + 256 * (b 31 : Int) := unw_i hb (i := 15) (by decide)
  have h30 := hb 30 (by decide)
  have h31 := hb 31 (by decide)
  have m15 : (unw b 15 &&& 32767).toInt = (unw b 15).toInt % 32768 := nn_and (unw b 15) 15 32767 (by decide) (by decide)
  have g : ∀ k, k < 16 → (vp_updL (cpF F (16 * d) 16 (fun i => unw b i)) (16 * d + 15) (unw b 15 &&& 32767) (16 * d + k)).toInt = if k = 15 then (unw b 15).toInt % 32768 else (b (2 * k) : Int) + 256 * (b (2 * k + 1) : Int) := fun k hk => by
    unfold vp_updL cpF
    by_cases a : k = 15
    · subst a; rw [if_pos rfl, if_pos rfl, m15]
    · rw [if_neg (by omega), if_pos (by omega), if_neg a, show 16 * d + k - 16 * d = k by omega]; exact unw_i hb hk
  refine ⟨eqP.of ?_, fun k hk => ?_⟩
  · have := un_num (fun k => (b k : Int))
    unfold v16; rw [sumV_congr g]
    rw [← this]
    have e : sumV (fun k => (b (2 * k) : Int) + 256 * (b (2 * k + 1) : Int)) 16 = sumV (fun k => (b (2 * k) : Int) + 256 * (b (2 * k + 1) : Int)) 15 + ((b 30 : Int) + 256 * (b 31 : Int)) * 65536 ^ 15 := rfl
    have e' : sumV (fun k => if k = 15 then (unw b 15).toInt % 32768 else (b (2 * k) : Int) + 256 * (b (2 * k + 1) : Int)) 16 = sumV (fun k => (b (2 * k) : Int) + 256 * (b (2 * k + 1) : Int)) 15 + ((unw b 15).toInt % 32768) * 65536 ^ 15 := by
      show sumV (fun k => if k = 15 then (unw b 15).toInt % 32768 else (b (2 * k) : Int) + 256 * (b (2 * k + 1) : Int)) 15 + _ = _
      rw [sumV_congr (g := fun k => if k = 15 then (unw b 15).toInt % 32768 else (b (2 * k) : Int) + 256 * (b (2 * k + 1) : Int)) (h := fun k => (b (2 * k) : Int) + 256 * (b (2 * k + 1) : Int)) (n := 15) (fun k hk => if_neg (by omega))]
      rfl
    have bd := sumV_bd (g := fun k => (b (2 * k) : Int) + 256 * (b (2 * k + 1) : Int)) (n := 15) (fun k hk => by have := hb (2 * k) (by omega); have := hb (2 * k + 1) (by omega); omega)
    rw [e, e', w15]
    generalize sumV (fun k => (b (2 * k) : Int) + 256 * (b (2 * k + 1) : Int)) 15 = S at *
    have p1 : (65536 : Int) ^ 15 = 1766847064778384329583297500742918515827483896875618958121606201292619776 := by decide
    rw [p1] at *
    unfold n255
    omega
  · rw [g k hk]
    have := hb (2 * k) (by omega)
    have := hb (2 * k + 1) (by omega)
    split <;> omega
set_option maxHeartbeats 8000000 in
theorem un_lp (G : GX) {M0 : List va_E} {v : Nat → Int32} {d fr at0 n : Nat} {F : Nat → Int64} {g : Nat → Int32} {b : Nat → Nat} (ho : M0[373]? = some (moO v)) (hd : d ≤ 63) (hg : M0[fr]? = some (ir n g)) (hne : fr ≠ 390) (hn : at0 + 32 ≤ n) (hn2 : n < 2 ^ 31) (hb : ∀ k, k < 32 → g (at0 + k) = nI (b k)) {Q : Option Value → List va_E → Prop} (kk : ∀ M, M[390]? = some (lr 1024 (cpF F (16 * d) 16 (fun i => unw b i))) ∧ Kp [390] M0 M → TT G mi_Mo_unpack 53 [(0, .ref 373), (1, .int (nI d)), (2, .ref fr), (3, .int (nI at0))] [] M 0 0 Q) : ∀ j k M, k + j = 16 → M[390]? = some (lr 1024 (cpF F (16 * d) k (fun i => unw b i))) ∧ Kp [390] M0 M → TT G mi_Mo_unpack 3 [(4, .int (nI k)), (0, .ref 373), (1, .int (nI d)), (2, .ref fr), (3, .int (nI at0))] [] M 0 0 Q := by
  intro j
  induction j with
  | zero =>
    intro k M hk hI
    obtain rfl : 16 = k := by omega
    refine T_iload d_Mo_unpack_3 rfl ?_
    refine T_bipush (v := nI 16) d_Mo_unpack_5 (by decide) ?_
    refine N_icmp_ge_t (a := 16) (b := 16) d_Mo_unpack_7 (tgt := 53) rfl (by omega) (by omega) (by omega) ?_
    exact T_sub (fun q hq => List.mem_cons_of_mem _ hq) (kk M hI)
  | succ j ih =>
    intro k M hk hI
    obtain ⟨h1, hK⟩ := hI
    refine T_iload d_Mo_unpack_3 rfl ?_
    refine T_bipush (v := nI 16) d_Mo_unpack_5 (by decide) ?_
    refine N_icmp_ge_f (a := 16) (b := k) d_Mo_unpack_7 (tgt := 53) rfl (by omega) (by omega) (by omega) ?_
    refine T_aload_n (v := .ref 373) d_Mo_unpack_10 rfl (Or.inr ⟨_, rfl⟩) ?_
    have h_1 := (hK 373 (by decide)).trans (ho)
    refine T_getfield (v := .ref 390) d_Mo_unpack_11 fg_Mo_124 h_1 rfl ?_
    refine T_bipush (v := nI 16) d_Mo_unpack_14 (by decide) ?_
    refine T_iload_n d_Mo_unpack_16 rfl ?_
    refine N_imul (a := d) (b := 16) (c := (16 * d)) d_Mo_unpack_17 rfl ?_
    refine T_iload d_Mo_unpack_18 rfl ?_
    refine N_iadd (a := k) (b := (16 * d)) (c := ((16 * d) + k)) d_Mo_unpack_20 rfl ?_
    refine T_aload_n (v := .ref fr) d_Mo_unpack_21 rfl (Or.inr ⟨_, rfl⟩) ?_
    refine T_iload_n d_Mo_unpack_22 rfl ?_
    refine T_iconst (v := nI 2) d_Mo_unpack_23 (by decide) ?_
    refine T_iload d_Mo_unpack_24 rfl ?_
    refine N_imul (a := k) (b := 2) (c := (2 * k)) d_Mo_unpack_26 rfl ?_
    refine N_iadd (a := (2 * k)) (b := at0) (c := (at0 + (2 * k))) d_Mo_unpack_27 rfl ?_
    have h_2 := (hK fr (by simp only [List.mem_cons, List.not_mem_nil, or_false]; exact hne)).trans (hg)
    refine N_iaload (k := (at0 + (2 * k))) (x := (nI ((b (2 * k))))) d_Mo_unpack_28 h_2 (by omega) (by omega) (hb (2 * k) (by omega)) ?_
    refine T_i2l d_Mo_unpack_29 ?_
    refine T_ldc2 d_Mo_unpack_30 kJ_Mo_177 ?_
    refine T_aload_n (v := .ref fr) d_Mo_unpack_33 rfl (Or.inr ⟨_, rfl⟩) ?_
    refine T_iload_n d_Mo_unpack_34 rfl ?_
    refine T_iconst (v := nI 2) d_Mo_unpack_35 (by decide) ?_
    refine T_iload d_Mo_unpack_36 rfl ?_
    refine N_imul (a := k) (b := 2) (c := (2 * k)) d_Mo_unpack_38 rfl ?_
    refine N_iadd (a := (2 * k)) (b := at0) (c := (at0 + (2 * k))) d_Mo_unpack_39 rfl ?_
    refine T_iconst (v := nI 1) d_Mo_unpack_40 (by decide) ?_
    refine N_iadd (a := 1) (b := (at0 + (2 * k))) (c := ((at0 + (2 * k)) + 1)) d_Mo_unpack_41 rfl ?_
    refine N_iaload (k := ((at0 + (2 * k)) + 1)) (x := (nI ((b (2 * k + 1))))) d_Mo_unpack_42 h_2 (by omega) (by omega) (by rw [show at0 + 2 * k + 1 = at0 + (2 * k + 1) by omega]; exact hb (2 * k + 1) (by omega)) ?_
    refine T_i2l d_Mo_unpack_43 ?_
    refine T_lmul d_Mo_unpack_44 ?_
    refine T_ladd d_Mo_unpack_45 ?_
    refine N_lastore (k := ((16 * d) + k)) d_Mo_unpack_46 (by decide) h1 (by omega) (by decide) rfl (fun M_3 h_4 s_5 => ?_)
    refine N_iinc (k := k) (m := 1) (c := (k + 1)) (L' := [(4, .int (nI ((k + 1)))), (0, .ref 373), (1, .int (nI d)), (2, .ref fr), (3, .int (nI at0))]) d_Mo_unpack_47 (by decide) rfl (by decide) rfl rfl ?_
    refine T_goto (tgt := 3) d_Mo_unpack_50 rfl ?_
    exact ih (k + 1) M_3 (by omega) ⟨by rw [h_4]; exact congrArg (fun f => some (lr 1024 f)) (cpF_up F (16 * d) k (fun i => unw b i)), (Kp.ex (Kp.tr (Kp.rf : Kp [390] M0 M0) (Kp.mono hK (by decide))) s_5 (by decide))⟩
set_option maxHeartbeats 8000000 in
theorem u_Mo_unpack {G : GX} {M : List va_E} {v : Nat → Int32} {E : Nat → Int} {d fr at0 n : Nat} {g : Nat → Int32} {b : Nat → Nat} (hE : RE M v E) (hd : d ≤ 63) (hg : M[fr]? = some (ir n g)) (hne : fr ≠ 390) (hn : at0 + 32 ≤ n) (hn2 : n < 2 ^ 31) (hb : ∀ k, k < 32 → g (at0 + k) = nI (b k)) (hb2 : ∀ k, k < 32 → b k < 256) : CT G mi_Mo_unpack [.ref 373, .int (nI d), .ref fr, .int (nI at0)] M (fun r M' => r = none ∧ qP M v E d (num32 (fun k => (b k : Int)) % n255) [d] M') := by
  obtain ⟨F, hR, hV⟩ := hE
  have hR0 := hR
  obtain ⟨ho, hf, h1, h2, h3, h4⟩ := hR
  refine CT.of (by decide) (Nat.le_of_ble_eq_true rfl) ?_
  show TT G mi_Mo_unpack 0 [(0, .ref 373), (1, .int (nI d)), (2, .ref fr), (3, .int (nI at0))] [] M 0 0 _
  refine T_iconst (v := nI 0) d_Mo_unpack_0 (by decide) ?_
  refine T_istore (L' := [(4, .int (nI 0)), (0, .ref 373), (1, .int (nI d)), (2, .ref fr), (3, .int (nI at0))]) d_Mo_unpack_1 (by decide) rfl ?_
  refine un_lp (d := d) G ho hd hg hne hn hn2 hb (fun Ma hI => ?_) 16 0 M rfl ⟨by rw [cpF_0]; exact hf, Kp.rf⟩
  obtain ⟨hc1, hk1⟩ := hI
  refine T_aload_n (v := .ref 373) d_Mo_unpack_53 rfl (Or.inr ⟨_, rfl⟩) ?_
  have h_1 := (hk1 373 (by decide)).trans (ho)
  refine T_getfield (v := .ref 390) d_Mo_unpack_54 fg_Mo_124 h_1 rfl ?_
  refine T_bipush (v := nI 16) d_Mo_unpack_57 (by decide) ?_
  refine T_iload_n d_Mo_unpack_59 rfl ?_
  refine N_imul (a := d) (b := 16) (c := (16 * d)) d_Mo_unpack_60 rfl ?_
  refine T_bipush (v := nI 15) d_Mo_unpack_61 (by decide) ?_
  refine N_iadd (a := 15) (b := (16 * d)) (c := ((16 * d) + 15)) d_Mo_unpack_63 rfl ?_
  refine T_dup2 d_Mo_unpack_64 rfl rfl ?_
  refine N_laload (k := ((16 * d) + 15)) (x := (unw b 15)) d_Mo_unpack_65 hc1 (by omega) (by decide) (by unfold cpF; rw [if_pos (by omega), show 16 * d + 15 - 16 * d = 15 by omega]) ?_
  refine T_ldc2 d_Mo_unpack_66 kJ_Mo_141 ?_
  refine T_land d_Mo_unpack_69 ?_
  refine N_lastore (k := ((16 * d) + 15)) d_Mo_unpack_70 (by decide) hc1 (by omega) (by decide) rfl (fun M_2 h_3 s_4 => ?_)
  have V1 := un_V (F := F) (d := d) hb2
  have kp : Kp [390] M M_2 := (Kp.ex (Kp.tr (Kp.rf : Kp [390] M M) (Kp.mono hk1 (by decide))) s_4 (by decide))
  have h_5 := (s_4 373 (by decide)).trans (h_1)
  refine T_vret d_Mo_unpack_71 rfl (by decide) (by decide) ⟨rfl, up E d _, ⟨_, ⟨h_5, h_3, ?_, ?_, ?_, ?_⟩, fun e he => ?_⟩, up_self _ _ _, KE.up, kp.mono (by decide)⟩
  · obtain ⟨P, hP⟩ := h1; exact ⟨P, (kp 391 (by decide)).trans hP⟩
  · obtain ⟨P, hP⟩ := h2; exact ⟨P, (kp 392 (by decide)).trans hP⟩
  · obtain ⟨P, hP⟩ := h3; exact ⟨P, (kp 393 (by decide)).trans hP⟩
  · obtain ⟨P, hP⟩ := h4; exact ⟨P, (kp 394 (by decide)).trans hP⟩
  · by_cases c : e = d
    · subst c; rw [up_self]; exact V1
    · rw [up_ne c]; exact (hV e he).kr (ds := [d]) (fun e2 he2 k hk => by simp at he2; unfold vp_updL cpF; rw [if_neg (by omega), if_neg (by omega)]) (by simpa using c)
def SC (M : List va_E) (q n off : Nat) (x : Nat) : Prop := ∃ f, M[q]? = some (lr n f) ∧ ∀ k, k < 16 → (f (off + k)).toInt = ((x / 65536 ^ k % 65536 : Nat) : Int)
theorem SC.kp {M M' : List va_E} {q n off x : Nat} {W : List Nat} (h : SC M q n off x) (s : Kp W M M') (hn : q ∉ W) : SC M' q n off x := by obtain ⟨f, h1, h2⟩ := h; exact ⟨f, (s _ hn).trans h1, h2⟩
set_option maxHeartbeats 8000000 in
theorem sc_bit {w : Int64} {x k : Nat} (h : w.toInt = ((x / 65536 ^ (k / 16) % 65536 : Nat) : Int)) : lg_cmp ((w >>> ((nI (k % 16)).toInt64 &&& 63)) &&& 1) 1 = if x / 2 ^ k % 2 = 1 then 0 else -1 := by
  have hs : (((nI (k % 16)).toInt64 &&& 63).toBitVec.smod 64).toNat = k % 16 := by
    have : ∀ m, m < 16 → (((nI m).toInt64 &&& 63).toBitVec.smod 64).toNat = m := by decide
    exact this _ (by omega)
  have b : 0 ≤ w.toInt ∧ w.toInt < 2 ^ 16 := by rw [h]; omega
  have v : ((w >>> ((nI (k % 16)).toInt64 &&& 63)) &&& 1).toInt = (x / 2 ^ k % 2 : Nat) := by
    rw [nn_and _ 1 1 (by decide) (by decide), nn_shr hs b (by omega), h]
    have e : x / 2 ^ k = x / 65536 ^ (k / 16) / 2 ^ (k % 16) := by
      rw [Nat.div_div_eq_div_mul, show (65536 : Nat) = 2 ^ 16 from rfl, ← Nat.pow_mul, ← Nat.pow_add, Nat.div_add_mod]
    rw [e]
    generalize x / 65536 ^ (k / 16) = y
    have hk : k % 16 < 16 := by omega
    generalize k % 16 = m at *
    have : m = 0 ∨ m = 1 ∨ m = 2 ∨ m = 3 ∨ m = 4 ∨ m = 5 ∨ m = 6 ∨ m = 7 ∨ m = 8 ∨ m = 9 ∨ m = 10 ∨ m = 11 ∨ m = 12 ∨ m = 13 ∨ m = 14 ∨ m = 15 := by omega
    rcases this with rfl | rfl | rfl | rfl | rfl | rfl | rfl | rfl | rfl | rfl | rfl | rfl | rfl | rfl | rfl | rfl <;> omega
  have h2 : x / 2 ^ k % 2 = 0 ∨ x / 2 ^ k % 2 = 1 := by omega
  generalize ((w >>> ((nI (k % 16)).toInt64 &&& 63)) &&& 1) = z at *
  rcases h2 with e | e
  · rw [e] at v ⊢
    have : z = 0 := Int64.toInt_inj.mp (v.trans (by decide))
    rw [this]; decide
  · rw [e] at v ⊢
    have : z = 1 := Int64.toInt_inj.mp (v.trans (by decide))
    rw [this]; decide
def PE (E : Nat → Int) (p : Nat) (P : Fp × Fp) : Prop := Pj P (ph (E p)) (ph (E (p + 1))) (ph (E (p + 2))) (ph (E (p + 3)))
theorem PE.p4 {E : Nat → Int} {p : Nat} {P : Fp × Fp} {X Y Z T : Int} (h : P4 E p X Y Z T) (j : Pj P (ph X) (ph Y) (ph Z) (ph T)) : PE E p P := by
  obtain ⟨h1, h2, h3, h4⟩ := h
  unfold PE; rw [h1, h2, h3, h4]; exact j
theorem PE.ke {E E' : Nat → Int} {p : Nat} {P : Fp × Fp} {ds : List Nat} (h : PE E p P) (k : KE ds E E') (n0 : p ∉ ds) (n1 : p + 1 ∉ ds) (n2 : p + 2 ∉ ds) (n3 : p + 3 ∉ ds) : PE E' p P := by
  unfold PE; rw [k _ n0, k _ n1, k _ n2, k _ n3]; exact h
theorem pj_sum {P Q : Fp × Fp} (hP : OnP fD P) (hQ : OnP fD Q) {X Y Z T X' Y' Z' T' : Int} (h : Pj P (ph X) (ph Y) (ph Z) (ph T)) (h' : Pj Q (ph X') (ph Y') (ph Z') (ph T')) : Pj (ad2 fD P Q) (ph (((X * Y') + (Y * X')) * ((Z * Z') - ((T * T') * cD)))) (ph (((Y * Y') + (X * X')) * ((Z * Z') + ((T * T') * cD)))) (ph (((Z * Z') - ((T * T') * cD)) * ((Z * Z') + ((T * T') * cD)))) (ph (((X * Y') + (Y * X')) * ((Y * Y') + (X * X')))) := by
  have := cvF.pj_add hP hQ h h'
  simp only [ph_mul, ph_add, ph_sub, ph_cD]
  exact this
def qPE (M : List va_E) (v : Nat → Int32) (E : Nat → Int) (p : Nat) (P : Fp × Fp) (ds : List Nat) (M' : List va_E) : Prop := ∃ E', RE M' v E' ∧ PE E' p P ∧ KE ds E E' ∧ Kp RW M M'
section PEs
variable {G : GX} {M : List va_E} {v : Nat → Int32} {E : Nat → Int} {P Q : Fp × Fp}
theorem w_Mo_dbl (hE : RE M v E) (e2 : E 2 = cD) (hP : OnP fD P) (h : PE E 32 P) : CT G mi_Mo_sumPoint [.ref 373, .int (nI 32), .int (nI 32), .int (nI 32)] M (fun r M' => r = none ∧ qPE M v E 32 (ad2 fD P P) [40, 41, 42, 43, 44, 45, 32, 33, 34, 35] M') :=
  (u_Mo_sum_32_32_32 hE e2 ⟨rfl, rfl, rfl, rfl⟩).post fun r M' q => by
    obtain ⟨q1, E', q2, q3, q4, q5⟩ := q
    exact ⟨q1, E', q2, PE.p4 q3 (pj_sum hP hP h h), q4, q5⟩
theorem w_Mo_inc (hE : RE M v E) (e2 : E 2 = cD) (hP : OnP fD P) (hQ : OnP fD Q) (h : PE E 32 P) (h' : PE E 36 Q) : CT G mi_Mo_sumPoint [.ref 373, .int (nI 32), .int (nI 32), .int (nI 36)] M (fun r M' => r = none ∧ qPE M v E 32 (ad2 fD P Q) [40, 41, 42, 43, 44, 45, 32, 33, 34, 35] M') :=
  (u_Mo_sum_32_32_36 hE e2 ⟨rfl, rfl, rfl, rfl⟩ ⟨rfl, rfl, rfl, rfl⟩).post fun r M' q => by
    obtain ⟨q1, E', q2, q3, q4, q5⟩ := q
    exact ⟨q1, E', q2, PE.p4 q3 (pj_sum hP hQ h h'), q4, q5⟩
theorem w_Mo_join (hE : RE M v E) (e2 : E 2 = cD) (hP : OnP fD P) (hQ : OnP fD Q) (h : PE E 12 P) (h' : PE E 16 Q) : CT G mi_Mo_sumPoint [.ref 373, .int (nI 12), .int (nI 12), .int (nI 16)] M (fun r M' => r = none ∧ qPE M v E 12 (ad2 fD P Q) [40, 41, 42, 43, 44, 45, 12, 13, 14, 15] M') :=
  (u_Mo_sum_12_12_16 hE e2 ⟨rfl, rfl, rfl, rfl⟩ ⟨rfl, rfl, rfl, rfl⟩).post fun r M' q => by
    obtain ⟨q1, E', q2, q3, q4, q5⟩ := q
    exact ⟨q1, E', q2, PE.p4 q3 (pj_sum hP hQ h h'), q4, q5⟩
end PEs
theorem x_dv (x j : Nat) : x / 2 ^ j = x / 2 ^ (j + 1) + x / 2 ^ (j + 1) + x / 2 ^ j % 2 := by
  have : x / 2 ^ (j + 1) = x / 2 ^ j / 2 := by rw [Nat.pow_succ, Nat.div_div_eq_div_mul]
  omega
set_option maxHeartbeats 8000000 in
theorem tp_lp (G : GX) {M0 : List va_E} {v : Nat → Int32} {E : Nat → Int} {p a x : Nat} {P : Fp × Fp} (e2 : E 2 = cD) (hP : OnP fD P) (h36 : PE E 36 P) (hs : SC M0 395 16 0 x) {Q : Option Value → List va_E → Prop} (kk : ∀ M', (∃ E', RE M' v E' ∧ PE E' 32 (emul fD P (x / 2 ^ 0)) ∧ KE [32, 33, 34, 35, 40, 41, 42, 43, 44, 45] E E' ∧ Kp RW M0 M') → TT G mi_Mo_timesPoint 68 [(3, .int (-1)), (0, .ref 373), (1, .int (nI p)), (2, .int (nI a))] [] M' 0 0 Q) : ∀ j M, j ≤ 256 → (∃ E', RE M v E' ∧ PE E' 32 (emul fD P (x / 2 ^ j)) ∧ KE [32, 33, 34, 35, 40, 41, 42, 43, 44, 45] E E' ∧ Kp RW M0 M) → TT G mi_Mo_timesPoint 17 [(3, .int (nI j - 1)), (0, .ref 373), (1, .int (nI p)), (2, .int (nI a))] [] M 0 0 Q := by
  intro j
  induction j with
  | zero =>
    intro M hj hI
    refine T_iload_n d_Mo_timesPoint_17 rfl ?_
    refine T_if_lt d_Mo_timesPoint_18 (tgt := 68) rfl (fun _ => ?_) (fun c => absurd (by decide) c)
    exact kk M hI
  | succ j ih =>
    intro M hj hI
    obtain ⟨E_0, hE_0, hv_0, ke_0, kp_0⟩ := hI
    rw [nI_p1]
    obtain ⟨f, hf, hf2⟩ := hs
    refine T_iload_n d_Mo_timesPoint_17 rfl ?_
    refine N_if_lt_f (b := j) d_Mo_timesPoint_18 (tgt := 68) rfl (by omega) (by omega) ?_
    refine T_aload_n (v := .ref 373) d_Mo_timesPoint_21 rfl (Or.inr ⟨_, rfl⟩) ?_
    refine T_bipush (v := nI 32) d_Mo_timesPoint_22 (by decide) ?_
    refine T_bipush (v := nI 32) d_Mo_timesPoint_24 (by decide) ?_
    refine T_bipush (v := nI 32) d_Mo_timesPoint_26 (by decide) ?_
    refine T_virtual (as := [.int (nI 32), .int (nI 32), .int (nI 32)]) (rest := []) (b := 373) d_Mo_timesPoint_28 rfl (jw_Mo_sumPoint.jo (by decide)) lm_Mo_191 ji_Mo_sumPoint js_Mo_sumPoint hE_0.ob rfl rfl rfl (Nat.le_of_ble_eq_true rfl) (by decide) (by decide) (w_Mo_dbl hE_0 ((((KE.tr (KE.rf : KE [32, 33, 34, 35, 40, 41, 42, 43, 44, 45] E E) (KE.mono ke_0 (by decide)))) 2 (by decide)).trans e2) (cvF.onM hP _) hv_0) (fun r M_1 hq => ?_)
    obtain ⟨rfl, E_1, hE_1, hv_1, ke_1, kp_1⟩ := hq
    refine T_eq (pc' := 31) (L' := [(3, .int (nI j)), (0, .ref 373), (1, .int (nI p)), (2, .int (nI a))]) (st' := []) (M' := M_1) rfl rfl rfl rfl ?_
    refine T_aload_n (v := .ref 373) d_Mo_timesPoint_31 rfl (Or.inr ⟨_, rfl⟩) ?_
    refine T_getfield (v := .ref 395) d_Mo_timesPoint_32 fg_Mo_194 hE_1.ob rfl ?_
    refine T_iload_n d_Mo_timesPoint_35 rfl ?_
    refine T_bipush (v := nI 16) d_Mo_timesPoint_36 (by decide) ?_
    refine N_idiv (a := 16) (b := j) (c := (j / 16)) d_Mo_timesPoint_38 (by omega) (by omega) (by omega) rfl ?_
    have h_2 := (kp_1 395 (by decide)).trans ((kp_0 395 (by decide)).trans (hf))
    refine N_laload (k := (j / 16)) (x := (f (0 + j / 16))) d_Mo_timesPoint_39 h_2 (by omega) (by decide) (by rw [Nat.zero_add]) ?_
    refine T_iload_n d_Mo_timesPoint_40 rfl ?_
    refine T_bipush (v := nI 16) d_Mo_timesPoint_41 (by decide) ?_
    refine N_irem (a := 16) (b := j) (c := (j % 16)) d_Mo_timesPoint_43 (by omega) (by omega) (by omega) rfl ?_
    refine T_lshr d_Mo_timesPoint_44 ?_
    refine T_lconst (v := 1) d_Mo_timesPoint_45 (by decide) ?_
    refine T_land d_Mo_timesPoint_46 ?_
    refine T_lconst (v := 1) d_Mo_timesPoint_47 (by decide) ?_
    refine T_lcmp d_Mo_timesPoint_48 ?_
    refine N_topi (y := (if x / 2 ^ j % 2 = 1 then 0 else -1)) (sc_bit (hf2 (j / 16) (by omega))) ?_
    by_cases hb : x / 2 ^ j % 2 = 1
    · rw [if_pos hb]
      refine T_if_ne d_Mo_timesPoint_49 (tgt := 62) rfl (fun c => absurd c (by decide)) (fun _ => ?_)
      refine T_aload_n (v := .ref 373) d_Mo_timesPoint_52 rfl (Or.inr ⟨_, rfl⟩) ?_
      refine T_bipush (v := nI 32) d_Mo_timesPoint_53 (by decide) ?_
      refine T_bipush (v := nI 32) d_Mo_timesPoint_55 (by decide) ?_
      refine T_bipush (v := nI 36) d_Mo_timesPoint_57 (by decide) ?_
      refine T_virtual (as := [.int (nI 32), .int (nI 32), .int (nI 36)]) (rest := []) (b := 373) d_Mo_timesPoint_59 rfl (jw_Mo_sumPoint.jo (by decide)) lm_Mo_191 ji_Mo_sumPoint js_Mo_sumPoint hE_1.ob rfl rfl rfl (Nat.le_of_ble_eq_true rfl) (by decide) (by decide) (w_Mo_inc hE_1 ((((KE.tr (KE.tr (KE.rf : KE [32, 33, 34, 35, 40, 41, 42, 43, 44, 45] E E) (KE.mono ke_0 (by decide))) (KE.mono ke_1 (by decide)))) 2 (by decide)).trans e2) (cvF.onP (cvF.onM hP _) (cvF.onM hP _)) hP hv_1 (PE.ke h36 ((KE.tr (KE.tr (KE.rf : KE [32, 33, 34, 35, 40, 41, 42, 43, 44, 45] E E) (KE.mono ke_0 (by decide))) (KE.mono ke_1 (by decide)))) (by decide) (by decide) (by decide) (by decide))) (fun r M_3 hq => ?_)
      obtain ⟨rfl, E_3, hE_3, hv_3, ke_3, kp_3⟩ := hq
      refine T_eq (pc' := 62) (L' := [(3, .int (nI j)), (0, .ref 373), (1, .int (nI p)), (2, .int (nI a))]) (st' := []) (M' := M_3) rfl rfl rfl rfl ?_
      refine T_iinc (x := nI j) (L' := [(3, .int (nI j - 1)), (0, .ref 373), (1, .int (nI p)), (2, .int (nI a))]) d_Mo_timesPoint_62 (by decide) rfl (by rw [nI_dm]; rfl) ?_
      refine T_goto (tgt := 17) d_Mo_timesPoint_65 rfl ?_
      refine ih M_3 (by omega) ⟨_, hE_3, ?_, (KE.tr (KE.tr (KE.tr (KE.rf : KE [32, 33, 34, 35, 40, 41, 42, 43, 44, 45] E E) (KE.mono ke_0 (by decide))) (KE.mono ke_1 (by decide))) (KE.mono ke_3 (by decide))), (Kp.tr (Kp.tr (Kp.tr (Kp.rf : Kp [390, 391, 392, 393, 394] M0 M0) (Kp.mono kp_0 (by decide))) (Kp.mono kp_1 (by decide))) (Kp.mono kp_3 (by decide)))⟩
      have e := x_dv x j
      rw [hb] at e; rw [e]; show PE _ 32 (ad2 fD (emul fD P (x / 2 ^ (j + 1) + x / 2 ^ (j + 1))) P); rw [cvF.mul_add hP]; exact hv_3
    · rw [if_neg hb]
      refine T_if_ne d_Mo_timesPoint_49 (tgt := 62) rfl (fun _ => ?_) (fun c => absurd c (by decide))
      refine T_iinc (x := nI j) (L' := [(3, .int (nI j - 1)), (0, .ref 373), (1, .int (nI p)), (2, .int (nI a))]) d_Mo_timesPoint_62 (by decide) rfl (by rw [nI_dm]; rfl) ?_
      refine T_goto (tgt := 17) d_Mo_timesPoint_65 rfl ?_
      refine ih M_1 (by omega) ⟨_, hE_1, ?_, (KE.tr (KE.tr (KE.rf : KE [32, 33, 34, 35, 40, 41, 42, 43, 44, 45] E E) (KE.mono ke_0 (by decide))) (KE.mono ke_1 (by decide))), (Kp.tr (Kp.tr (Kp.rf : Kp [390, 391, 392, 393, 394] M0 M0) (Kp.mono kp_0 (by decide))) (Kp.mono kp_1 (by decide)))⟩
      have e := x_dv x j
      rw [show x / 2 ^ j = x / 2 ^ (j + 1) + x / 2 ^ (j + 1) by omega, cvF.mul_add hP]; exact hv_1
theorem pj_0 : Pj ((0 : Fp), (1 : Fp)) 0 1 1 0 := ⟨one_ne, by grind -lia -linarith, by grind -lia -linarith, by grind -lia -linarith⟩
set_option maxHeartbeats 8000000 in
theorem w_Mo_times_12_12 {G : GX} {M : List va_E} {v : Nat → Int32} {E : Nat → Int} {P : Fp × Fp} {x : Nat} (hE : RE M v E) (e2 : E 2 = cD) (hP : OnP fD P) (hx : x < 2 ^ 256) (h : PE E 12 P) (hs : SC M 395 16 0 x) : CT G mi_Mo_timesPoint [.ref 373, .int (nI 12), .int (nI 12)] M (fun r M' => r = none ∧ qPE M v E 12 (emul fD P x) [32, 33, 34, 35, 40, 41, 42, 43, 44, 45, 36, 37, 38, 39, 12, 13, 14, 15] M') := by
  refine CT.of (by decide) (Nat.le_of_ble_eq_true rfl) ?_
  show TT G mi_Mo_timesPoint 0 [(0, .ref 373), (1, .int (nI 12)), (2, .int (nI 12))] [] M 0 0 _
  refine T_aload_n (v := .ref 373) d_Mo_timesPoint_0 rfl (Or.inr ⟨_, rfl⟩) ?_
  refine T_bipush (v := nI 36) d_Mo_timesPoint_1 (by decide) ?_
  refine T_iload_n d_Mo_timesPoint_3 rfl ?_
  refine T_virtual (as := [.int (nI 36), .int (nI 12)]) (rest := []) (b := 373) d_Mo_timesPoint_4 rfl (jw_Mo_setPoint.jo (by decide)) lm_Mo_185 ji_Mo_setPoint js_Mo_setPoint hE.ob rfl rfl rfl (Nat.le_of_ble_eq_true rfl) (by decide) (by decide) (u_Mo_setP_36_12 hE ⟨rfl, rfl, rfl, rfl⟩) (fun r M_1 hq => ?_)
  obtain ⟨rfl, E_1, hE_1, hv_1, ke_1, kp_1⟩ := hq
  replace hv_1 := PE.p4 hv_1 h
  refine T_eq (pc' := 7) (L' := [(0, .ref 373), (1, .int (nI 12)), (2, .int (nI 12))]) (st' := []) (M' := M_1) rfl rfl rfl rfl ?_
  refine T_aload_n (v := .ref 373) d_Mo_timesPoint_7 rfl (Or.inr ⟨_, rfl⟩) ?_
  refine T_bipush (v := nI 32) d_Mo_timesPoint_8 (by decide) ?_
  refine T_virtual (as := [.int (nI 32)]) (rest := []) (b := 373) d_Mo_timesPoint_10 rfl (jw_Mo_zeroPoint.jo (by decide)) lm_Mo_188 ji_Mo_zeroPoint js_Mo_zeroPoint hE_1.ob rfl rfl rfl (Nat.le_of_ble_eq_true rfl) (by decide) (by decide) (u_Mo_zero_32 hE_1) (fun r M_2 hq => ?_)
  obtain ⟨rfl, E_2, hE_2, hv_2, ke_2, kp_2⟩ := hq
  replace hv_2 := PE.p4 (P := (0, 1)) hv_2 (by rw [ph_0, ph_1]; exact pj_0)
  refine T_eq (pc' := 13) (L' := [(0, .ref 373), (1, .int (nI 12)), (2, .int (nI 12))]) (st' := []) (M' := M_2) rfl rfl rfl rfl ?_
  refine T_sipush (v := nI 255) d_Mo_timesPoint_13 (by decide) ?_
  refine T_istore_n (L' := [(3, .int (nI 255)), (0, .ref 373), (1, .int (nI 12)), (2, .int (nI 12))]) d_Mo_timesPoint_16 (by decide) rfl ?_
  refine T_eq (pc' := 17) (L' := [(3, .int (nI (255 + 1) - 1)), (0, .ref 373), (1, .int (nI 12)), (2, .int (nI 12))]) (st' := []) (M' := M_2) rfl (by rw [nI_p1]) rfl rfl ?_
  refine tp_lp G (M0 := M_2) (E := E_2) ((((KE.tr (KE.tr (KE.rf : KE [32, 33, 34, 35, 40, 41, 42, 43, 44, 45, 36, 37, 38, 39] E E) (KE.mono ke_1 (by decide))) (KE.mono ke_2 (by decide)))) 2 (by decide)).trans e2) hP (hv_1.ke ke_2 (by decide) (by decide) (by decide) (by decide)) (hs.kp ((Kp.tr (Kp.tr (Kp.rf : Kp [390, 391, 392, 393, 394] M M) (Kp.mono kp_1 (by decide))) (Kp.mono kp_2 (by decide)))) (by decide)) (fun M_8 h8 => ?_) 256 M_2 (by decide) ⟨_, hE_2, ?_, KE.rf, Kp.rf⟩
  rotate_left
  · rw [Nat.div_eq_of_lt hx]; exact hv_2
  obtain ⟨E_8, hE_8, hv_8, ke_8, kp_8⟩ := h8
  rw [Nat.pow_zero, Nat.div_one] at hv_8
  refine T_aload_n (v := .ref 373) d_Mo_timesPoint_68 rfl (Or.inr ⟨_, rfl⟩) ?_
  refine T_iload_n d_Mo_timesPoint_69 rfl ?_
  refine T_bipush (v := nI 32) d_Mo_timesPoint_70 (by decide) ?_
  refine T_virtual (as := [.int (nI 12), .int (nI 32)]) (rest := []) (b := 373) d_Mo_timesPoint_72 rfl (jw_Mo_setPoint.jo (by decide)) lm_Mo_185 ji_Mo_setPoint js_Mo_setPoint hE_8.ob rfl rfl rfl (Nat.le_of_ble_eq_true rfl) (by decide) (by decide) (u_Mo_setP_12_32 hE_8 ⟨rfl, rfl, rfl, rfl⟩) (fun r M_9 hq => ?_)
  obtain ⟨rfl, E_9, hE_9, hv_9, ke_9, kp_9⟩ := hq
  replace hv_9 := PE.p4 hv_9 hv_8
  refine T_eq (pc' := 75) (L' := [(3, .int (-1)), (0, .ref 373), (1, .int (nI 12)), (2, .int (nI 12))]) (st' := []) (M' := M_9) rfl rfl rfl rfl ?_
  exact T_vret d_Mo_timesPoint_75 rfl (by decide) (by decide) ⟨rfl, E_9, hE_9, hv_9, (KE.tr (KE.tr (KE.tr (KE.tr (KE.rf : KE [32, 33, 34, 35, 40, 41, 42, 43, 44, 45, 36, 37, 38, 39, 12, 13, 14, 15] E E) (KE.mono ke_1 (by decide))) (KE.mono ke_2 (by decide))) (KE.mono ke_8 (by decide))) (KE.mono ke_9 (by decide))), (Kp.tr (Kp.tr (Kp.tr (Kp.tr (Kp.rf : Kp [390, 391, 392, 393, 394] M M) (Kp.mono kp_1 (by decide))) (Kp.mono kp_2 (by decide))) (Kp.mono kp_8 (by decide))) (Kp.mono kp_9 (by decide)))⟩
set_option maxHeartbeats 8000000 in
theorem w_Mo_times_16_8 {G : GX} {M : List va_E} {v : Nat → Int32} {E : Nat → Int} {P : Fp × Fp} {x : Nat} (hE : RE M v E) (e2 : E 2 = cD) (hP : OnP fD P) (hx : x < 2 ^ 256) (h : PE E 8 P) (hs : SC M 395 16 0 x) : CT G mi_Mo_timesPoint [.ref 373, .int (nI 16), .int (nI 8)] M (fun r M' => r = none ∧ qPE M v E 16 (emul fD P x) [32, 33, 34, 35, 40, 41, 42, 43, 44, 45, 36, 37, 38, 39, 16, 17, 18, 19] M') := by
  refine CT.of (by decide) (Nat.le_of_ble_eq_true rfl) ?_
  show TT G mi_Mo_timesPoint 0 [(0, .ref 373), (1, .int (nI 16)), (2, .int (nI 8))] [] M 0 0 _
  refine T_aload_n (v := .ref 373) d_Mo_timesPoint_0 rfl (Or.inr ⟨_, rfl⟩) ?_
  refine T_bipush (v := nI 36) d_Mo_timesPoint_1 (by decide) ?_
  refine T_iload_n d_Mo_timesPoint_3 rfl ?_
  refine T_virtual (as := [.int (nI 36), .int (nI 8)]) (rest := []) (b := 373) d_Mo_timesPoint_4 rfl (jw_Mo_setPoint.jo (by decide)) lm_Mo_185 ji_Mo_setPoint js_Mo_setPoint hE.ob rfl rfl rfl (Nat.le_of_ble_eq_true rfl) (by decide) (by decide) (u_Mo_setP_36_8 hE ⟨rfl, rfl, rfl, rfl⟩) (fun r M_1 hq => ?_)
  obtain ⟨rfl, E_1, hE_1, hv_1, ke_1, kp_1⟩ := hq
  replace hv_1 := PE.p4 hv_1 h
  refine T_eq (pc' := 7) (L' := [(0, .ref 373), (1, .int (nI 16)), (2, .int (nI 8))]) (st' := []) (M' := M_1) rfl rfl rfl rfl ?_
  refine T_aload_n (v := .ref 373) d_Mo_timesPoint_7 rfl (Or.inr ⟨_, rfl⟩) ?_
  refine T_bipush (v := nI 32) d_Mo_timesPoint_8 (by decide) ?_
  refine T_virtual (as := [.int (nI 32)]) (rest := []) (b := 373) d_Mo_timesPoint_10 rfl (jw_Mo_zeroPoint.jo (by decide)) lm_Mo_188 ji_Mo_zeroPoint js_Mo_zeroPoint hE_1.ob rfl rfl rfl (Nat.le_of_ble_eq_true rfl) (by decide) (by decide) (u_Mo_zero_32 hE_1) (fun r M_2 hq => ?_)
  obtain ⟨rfl, E_2, hE_2, hv_2, ke_2, kp_2⟩ := hq
  replace hv_2 := PE.p4 (P := (0, 1)) hv_2 (by rw [ph_0, ph_1]; exact pj_0)
  refine T_eq (pc' := 13) (L' := [(0, .ref 373), (1, .int (nI 16)), (2, .int (nI 8))]) (st' := []) (M' := M_2) rfl rfl rfl rfl ?_
  refine T_sipush (v := nI 255) d_Mo_timesPoint_13 (by decide) ?_
  refine T_istore_n (L' := [(3, .int (nI 255)), (0, .ref 373), (1, .int (nI 16)), (2, .int (nI 8))]) d_Mo_timesPoint_16 (by decide) rfl ?_
  refine T_eq (pc' := 17) (L' := [(3, .int (nI (255 + 1) - 1)), (0, .ref 373), (1, .int (nI 16)), (2, .int (nI 8))]) (st' := []) (M' := M_2) rfl (by rw [nI_p1]) rfl rfl ?_
  refine tp_lp G (M0 := M_2) (E := E_2) ((((KE.tr (KE.tr (KE.rf : KE [32, 33, 34, 35, 40, 41, 42, 43, 44, 45, 36, 37, 38, 39] E E) (KE.mono ke_1 (by decide))) (KE.mono ke_2 (by decide)))) 2 (by decide)).trans e2) hP (hv_1.ke ke_2 (by decide) (by decide) (by decide) (by decide)) (hs.kp ((Kp.tr (Kp.tr (Kp.rf : Kp [390, 391, 392, 393, 394] M M) (Kp.mono kp_1 (by decide))) (Kp.mono kp_2 (by decide)))) (by decide)) (fun M_8 h8 => ?_) 256 M_2 (by decide) ⟨_, hE_2, ?_, KE.rf, Kp.rf⟩
  rotate_left
  · rw [Nat.div_eq_of_lt hx]; exact hv_2
  obtain ⟨E_8, hE_8, hv_8, ke_8, kp_8⟩ := h8
  rw [Nat.pow_zero, Nat.div_one] at hv_8
  refine T_aload_n (v := .ref 373) d_Mo_timesPoint_68 rfl (Or.inr ⟨_, rfl⟩) ?_
  refine T_iload_n d_Mo_timesPoint_69 rfl ?_
  refine T_bipush (v := nI 32) d_Mo_timesPoint_70 (by decide) ?_
  refine T_virtual (as := [.int (nI 16), .int (nI 32)]) (rest := []) (b := 373) d_Mo_timesPoint_72 rfl (jw_Mo_setPoint.jo (by decide)) lm_Mo_185 ji_Mo_setPoint js_Mo_setPoint hE_8.ob rfl rfl rfl (Nat.le_of_ble_eq_true rfl) (by decide) (by decide) (u_Mo_setP_16_32 hE_8 ⟨rfl, rfl, rfl, rfl⟩) (fun r M_9 hq => ?_)
  obtain ⟨rfl, E_9, hE_9, hv_9, ke_9, kp_9⟩ := hq
  replace hv_9 := PE.p4 hv_9 hv_8
  refine T_eq (pc' := 75) (L' := [(3, .int (-1)), (0, .ref 373), (1, .int (nI 16)), (2, .int (nI 8))]) (st' := []) (M' := M_9) rfl rfl rfl rfl ?_
  exact T_vret d_Mo_timesPoint_75 rfl (by decide) (by decide) ⟨rfl, E_9, hE_9, hv_9, (KE.tr (KE.tr (KE.tr (KE.tr (KE.rf : KE [32, 33, 34, 35, 40, 41, 42, 43, 44, 45, 36, 37, 38, 39, 16, 17, 18, 19] E E) (KE.mono ke_1 (by decide))) (KE.mono ke_2 (by decide))) (KE.mono ke_8 (by decide))) (KE.mono ke_9 (by decide))), (Kp.tr (Kp.tr (Kp.tr (Kp.tr (Kp.rf : Kp [390, 391, 392, 393, 394] M M) (Kp.mono kp_1 (by decide))) (Kp.mono kp_2 (by decide))) (Kp.mono kp_8 (by decide))) (Kp.mono kp_9 (by decide)))⟩
set_option maxHeartbeats 8000000 in
theorem w_Mo_times_16_12 {G : GX} {M : List va_E} {v : Nat → Int32} {E : Nat → Int} {P : Fp × Fp} {x : Nat} (hE : RE M v E) (e2 : E 2 = cD) (hP : OnP fD P) (hx : x < 2 ^ 256) (h : PE E 12 P) (hs : SC M 395 16 0 x) : CT G mi_Mo_timesPoint [.ref 373, .int (nI 16), .int (nI 12)] M (fun r M' => r = none ∧ qPE M v E 16 (emul fD P x) [32, 33, 34, 35, 40, 41, 42, 43, 44, 45, 36, 37, 38, 39, 16, 17, 18, 19] M') := by
  refine CT.of (by decide) (Nat.le_of_ble_eq_true rfl) ?_
  show TT G mi_Mo_timesPoint 0 [(0, .ref 373), (1, .int (nI 16)), (2, .int (nI 12))] [] M 0 0 _
  refine T_aload_n (v := .ref 373) d_Mo_timesPoint_0 rfl (Or.inr ⟨_, rfl⟩) ?_
  refine T_bipush (v := nI 36) d_Mo_timesPoint_1 (by decide) ?_
  refine T_iload_n d_Mo_timesPoint_3 rfl ?_
  refine T_virtual (as := [.int (nI 36), .int (nI 12)]) (rest := []) (b := 373) d_Mo_timesPoint_4 rfl (jw_Mo_setPoint.jo (by decide)) lm_Mo_185 ji_Mo_setPoint js_Mo_setPoint hE.ob rfl rfl rfl (Nat.le_of_ble_eq_true rfl) (by decide) (by decide) (u_Mo_setP_36_12 hE ⟨rfl, rfl, rfl, rfl⟩) (fun r M_1 hq => ?_)
  obtain ⟨rfl, E_1, hE_1, hv_1, ke_1, kp_1⟩ := hq
  replace hv_1 := PE.p4 hv_1 h
  refine T_eq (pc' := 7) (L' := [(0, .ref 373), (1, .int (nI 16)), (2, .int (nI 12))]) (st' := []) (M' := M_1) rfl rfl rfl rfl ?_
  refine T_aload_n (v := .ref 373) d_Mo_timesPoint_7 rfl (Or.inr ⟨_, rfl⟩) ?_
  refine T_bipush (v := nI 32) d_Mo_timesPoint_8 (by decide) ?_
  refine T_virtual (as := [.int (nI 32)]) (rest := []) (b := 373) d_Mo_timesPoint_10 rfl (jw_Mo_zeroPoint.jo (by decide)) lm_Mo_188 ji_Mo_zeroPoint js_Mo_zeroPoint hE_1.ob rfl rfl rfl (Nat.le_of_ble_eq_true rfl) (by decide) (by decide) (u_Mo_zero_32 hE_1) (fun r M_2 hq => ?_)
  obtain ⟨rfl, E_2, hE_2, hv_2, ke_2, kp_2⟩ := hq
  replace hv_2 := PE.p4 (P := (0, 1)) hv_2 (by rw [ph_0, ph_1]; exact pj_0)
  refine T_eq (pc' := 13) (L' := [(0, .ref 373), (1, .int (nI 16)), (2, .int (nI 12))]) (st' := []) (M' := M_2) rfl rfl rfl rfl ?_
  refine T_sipush (v := nI 255) d_Mo_timesPoint_13 (by decide) ?_
  refine T_istore_n (L' := [(3, .int (nI 255)), (0, .ref 373), (1, .int (nI 16)), (2, .int (nI 12))]) d_Mo_timesPoint_16 (by decide) rfl ?_
  refine T_eq (pc' := 17) (L' := [(3, .int (nI (255 + 1) - 1)), (0, .ref 373), (1, .int (nI 16)), (2, .int (nI 12))]) (st' := []) (M' := M_2) rfl (by rw [nI_p1]) rfl rfl ?_
  refine tp_lp G (M0 := M_2) (E := E_2) ((((KE.tr (KE.tr (KE.rf : KE [32, 33, 34, 35, 40, 41, 42, 43, 44, 45, 36, 37, 38, 39] E E) (KE.mono ke_1 (by decide))) (KE.mono ke_2 (by decide)))) 2 (by decide)).trans e2) hP (hv_1.ke ke_2 (by decide) (by decide) (by decide) (by decide)) (hs.kp ((Kp.tr (Kp.tr (Kp.rf : Kp [390, 391, 392, 393, 394] M M) (Kp.mono kp_1 (by decide))) (Kp.mono kp_2 (by decide)))) (by decide)) (fun M_8 h8 => ?_) 256 M_2 (by decide) ⟨_, hE_2, ?_, KE.rf, Kp.rf⟩
  rotate_left
  · rw [Nat.div_eq_of_lt hx]; exact hv_2
  obtain ⟨E_8, hE_8, hv_8, ke_8, kp_8⟩ := h8
  rw [Nat.pow_zero, Nat.div_one] at hv_8
  refine T_aload_n (v := .ref 373) d_Mo_timesPoint_68 rfl (Or.inr ⟨_, rfl⟩) ?_
  refine T_iload_n d_Mo_timesPoint_69 rfl ?_
  refine T_bipush (v := nI 32) d_Mo_timesPoint_70 (by decide) ?_
  refine T_virtual (as := [.int (nI 16), .int (nI 32)]) (rest := []) (b := 373) d_Mo_timesPoint_72 rfl (jw_Mo_setPoint.jo (by decide)) lm_Mo_185 ji_Mo_setPoint js_Mo_setPoint hE_8.ob rfl rfl rfl (Nat.le_of_ble_eq_true rfl) (by decide) (by decide) (u_Mo_setP_16_32 hE_8 ⟨rfl, rfl, rfl, rfl⟩) (fun r M_9 hq => ?_)
  obtain ⟨rfl, E_9, hE_9, hv_9, ke_9, kp_9⟩ := hq
  replace hv_9 := PE.p4 hv_9 hv_8
  refine T_eq (pc' := 75) (L' := [(3, .int (-1)), (0, .ref 373), (1, .int (nI 16)), (2, .int (nI 12))]) (st' := []) (M' := M_9) rfl rfl rfl rfl ?_
  exact T_vret d_Mo_timesPoint_75 rfl (by decide) (by decide) ⟨rfl, E_9, hE_9, hv_9, (KE.tr (KE.tr (KE.tr (KE.tr (KE.rf : KE [32, 33, 34, 35, 40, 41, 42, 43, 44, 45, 36, 37, 38, 39, 16, 17, 18, 19] E E) (KE.mono ke_1 (by decide))) (KE.mono ke_2 (by decide))) (KE.mono ke_8 (by decide))) (KE.mono ke_9 (by decide))), (Kp.tr (Kp.tr (Kp.tr (Kp.tr (Kp.rf : Kp [390, 391, 392, 393, 394] M M) (Kp.mono kp_1 (by decide))) (Kp.mono kp_2 (by decide))) (Kp.mono kp_8 (by decide))) (Kp.mono kp_9 (by decide)))⟩

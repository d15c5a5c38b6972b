theorem rtG_le (u w : Int) : rtG u w ≤ 1 := by unfold rtG; split <;> omega
theorem fp_nn (a : Fp) : a = - -a := by grobner
theorem ph_zs (x : Int) : ph (0 - x) = -ph x := by rw [ph_sub, ph_0]; grind -lia -linarith
theorem ph_cE : ph cE = fE := rfl
theorem ph_cG : ph cG = fG := rfl
theorem ph_cO : ph cO = 1 - fD * fD := by
  rw [← ph_cD, ← ph_1, ← ph_mul, ← ph_sub, ph_eq, eqP.em]; decide +kernel
theorem ph_cL : ph cL = (fD - 1) * (fD - 1) := by
  rw [← ph_cD, ← ph_1, ← ph_sub, ← ph_mul, ph_eq, eqP.em]; decide +kernel
abbrev dec (N : Int) : Prop := N % n255 % pP = N ∧ ¬ od (ph N) ∧ qOK (ph N)
set_option maxHeartbeats 8000000 in
theorem num32_hi {b : Nat → Nat} (hb : ∀ k, k < 32 → b k < 256) : 0 ≤ num32 (fun k => (b k : Int)) ∧ (num32 (fun k => (b k : Int))) / 452312848583266388373324160190187140051835877600158453279131187530910662656 = (b 31 : Int) ∧ num32 (fun k => (b k : Int)) < 2 ^ 256 := by
  have h := num32_at (b := fun k => (b k : Int)) (fun k hk => by have := hb k hk; omega) (k := 31) (by decide)
  have l : 0 ≤ num32 (fun k => (b k : Int)) ∧ num32 (fun k => (b k : Int)) < 2 ^ 256 := by
    rw [num32_sum]
    have : ∀ n, (∀ k, k < n → b k < 256) → 0 ≤ sumN (fun k => (b k : Int)) n ∧ sumN (fun k => (b k : Int)) n < 256 ^ n := by
      intro n
      induction n with
      | zero => intro _; exact ⟨Int.le_refl 0, show (0 : Int) < 256 ^ 0 by decide⟩
      | succ n ih =>
        intro hn
        have i := ih fun k hk => hn k (by omega)
        have := hn n (by omega)
        show 0 ≤ sumN (fun k => (b k : Int)) n + (b n : Int) * 256 ^ n ∧ sumN (fun k => (b k : Int)) n + (b n : Int) * 256 ^ n < 256 ^ (n + 1)
        rw [Int.pow_succ]
        have p : (0 : Int) < 256 ^ n := Int.pow_pos (by decide)
        generalize (256 : Int) ^ n = q at *
        have : (b n : Int) * q ≤ 255 * q := Int.mul_le_mul_of_nonneg_right (by omega) (by omega)
        have : 0 ≤ (b n : Int) * q := Int.mul_nonneg (by omega) (by omega)
        omega
    have := this 32 hb
    exact ⟨this.1, by have h2 := this.2; rw [show (256 : Int) ^ 32 = 2 ^ 256 by decide] at h2; exact h2⟩
  refine ⟨l.1, ?_, l.2⟩
  have e : (256 : Int) ^ 31 = 452312848583266388373324160190187140051835877600158453279131187530910662656 := by decide
  try dsimp only at h
  rw [e] at h
  have l2 := l.2
  rw [show (2 : Int) ^ 256 = 115792089237316195423570985008687907853269984665640564039457584007913129639936 by decide] at l2
  rw [← h, Int.emod_eq_of_lt (by omega) (by omega)]
theorem dec_no2 {b : Nat → Nat} (hb : ∀ k, k < 32 → b k < 256) (h : 127 < b 31) : ¬ dec (num32 (fun k => (b k : Int))) := by
  intro c
  have e := c.1
  have n := num32_hi hb
  generalize num32 (fun k => (b k : Int)) = N at *
  have : N % n255 % pP < pP := Int.emod_lt_of_pos _ (by decide)
  rw [e] at this
  unfold pP at this
  omega
theorem dec_no3 {N : Int} (h : (N % n255 % pP) % 2 = 1) : ¬ dec N := by
  intro c
  refine c.2.1 (od_ph.mpr ?_)
  have e := c.1
  rw [e] at h
  have : 0 ≤ N % n255 % pP := Int.emod_nonneg _ (by decide)
  have l : N % n255 % pP < pP := Int.emod_lt_of_pos _ (by decide)
  rw [e] at this l
  rw [Int.emod_eq_of_lt this l]; exact h
theorem byN_num {b : Nat → Nat} (hb : ∀ k, k < 32 → b k < 256) {s : Int} (h : ∀ k, k < 32 → byN s k = b k) : s % pP = num32 (fun k => (b k : Int)) := by
  have b0 : 0 ≤ s % pP := Int.emod_nonneg _ (by decide)
  have b1 : s % pP < 2 ^ 256 := Int.lt_trans (Int.emod_lt_of_pos _ (by decide)) (by decide)
  rw [← num32_dig b0 b1, num32_sum, num32_sum]
  refine sumN_congr fun k hk => ?_
  rw [← h k hk]
  unfold byN
  have : 0 ≤ (s % pP) / 256 ^ k % 256 := Int.emod_nonneg _ (by decide)
  omega
theorem dec_no1 {b : Nat → Nat} (hb : ∀ k, k < 32 → b k < 256) (h : ¬ ∀ k, k < 32 → byN (num32 (fun k => (b k : Int)) % n255) k = b k) : ¬ dec (num32 (fun k => (b k : Int))) := by
  intro c
  refine h fun k hk => ?_
  unfold byN
  rw [c.1, num32_at (b := fun k => (b k : Int)) (fun k hk => by have := hb k hk; omega) hk]
  rfl
theorem dec_can {b : Nat → Nat} (hb : ∀ k, k < 32 → b k < 256) (h : b 31 ≤ 127) (hq : ∀ k, k < 32 → byN (num32 (fun k => (b k : Int)) % n255) k = b k) : num32 (fun k => (b k : Int)) % n255 = num32 (fun k => (b k : Int)) ∧ num32 (fun k => (b k : Int)) % n255 % pP = num32 (fun k => (b k : Int)) := by
  have e := byN_num hb hq
  have n := num32_hi hb
  refine ⟨?_, e⟩
  generalize num32 (fun k => (b k : Int)) = N at *
  unfold n255
  omega
set_option maxHeartbeats 8000000 in
theorem u_Mo_code_12 {G : GX} {M : List va_E} {v : Nat → Int32} {E : Nat → Int} (hE : RE M v E) (ck : CK E) {X Y Z T : Int} (ha : P4 E 12 X Y Z T) : CT G mi_Mo_code [.ref 373, .int (nI 12)] M (fun r M' => r = none ∧ (∃ c, PK M' c ∧ ph c = cF (ph X) (ph Y) (ph Z) (ph T)) ∧ qK M v E [20, 21, 22, 23, 24, 25, 26, 27, 28, 29, 50, 51, 52, 53, 54, 55, 56, 61, 62, 63] M') := by
  refine CT.of (by decide) (Nat.le_of_ble_eq_true rfl) ?_
  show TT G mi_Mo_code 0 [(0, .ref 373), (1, .int (nI 12))] [] M 0 0 _
  refine T_aload_n (v := .ref 373) d_Mo_code_0 rfl (Or.inr ⟨_, rfl⟩) ?_
  refine T_bipush (v := nI 20) d_Mo_code_1 (by decide) ?_
  refine T_iload_n d_Mo_code_3 rfl ?_
  refine T_iconst (v := nI 2) d_Mo_code_4 (by decide) ?_
  refine N_iadd (a := 2) (b := 12) (c := 14) d_Mo_code_5 rfl ?_
  refine T_iload_n d_Mo_code_6 rfl ?_
  refine T_iconst (v := nI 1) d_Mo_code_7 (by decide) ?_
  refine N_iadd (a := 1) (b := 12) (c := 13) d_Mo_code_8 rfl ?_
  refine T_virtual (as := [.int (nI 20), .int (nI 14), .int (nI 13)]) (rest := []) (b := 373) d_Mo_code_9 rfl (jw_Mo_add.jo (by decide)) lm_Mo_182 ji_Mo_add js_Mo_add hE.ob rfl rfl rfl (Nat.le_of_ble_eq_true rfl) (by decide) (by decide) (u_Mo_add hE (by decide) (by decide) (by decide) ha.2.2.1 ha.2.1) (fun r M_1 hq => ?_)
  obtain ⟨rfl, E_1, hE_1, vr_1, ke_1, kp_1⟩ := hq
  obtain ⟨x_1, hx_1⟩ : ∃ z : Int, z = (Z + Y) := ⟨_, rfl⟩
  rw [← hx_1] at vr_1
  refine T_eq (pc' := 12) (L' := [(0, .ref 373), (1, .int (nI 12))]) (st' := []) (M' := M_1) rfl rfl rfl rfl ?_
  refine T_aload_n (v := .ref 373) d_Mo_code_12 rfl (Or.inr ⟨_, rfl⟩) ?_
  refine T_bipush (v := nI 21) d_Mo_code_13 (by decide) ?_
  refine T_iload_n d_Mo_code_15 rfl ?_
  refine T_iconst (v := nI 2) d_Mo_code_16 (by decide) ?_
  refine N_iadd (a := 2) (b := 12) (c := 14) d_Mo_code_17 rfl ?_
  refine T_iload_n d_Mo_code_18 rfl ?_
  refine T_iconst (v := nI 1) d_Mo_code_19 (by decide) ?_
  refine N_iadd (a := 1) (b := 12) (c := 13) d_Mo_code_20 rfl ?_
  have r_2 := (ke_1 14 (by decide)).trans (ha.2.2.1)
  have r_3 := (ke_1 13 (by decide)).trans (ha.2.1)
  refine T_virtual (as := [.int (nI 21), .int (nI 14), .int (nI 13)]) (rest := []) (b := 373) d_Mo_code_21 rfl (jw_Mo_sub.jo (by decide)) lm_Mo_152 ji_Mo_sub js_Mo_sub hE_1.ob rfl rfl rfl (Nat.le_of_ble_eq_true rfl) (by decide) (by decide) (u_Mo_sub hE_1 (by decide) (by decide) (by decide) r_2 r_3) (fun r M_4 hq => ?_)
  obtain ⟨rfl, E_4, hE_4, vr_4, ke_4, kp_4⟩ := hq
  obtain ⟨x_4, hx_4⟩ : ∃ z : Int, z = (Z - Y) := ⟨_, rfl⟩
  rw [← hx_4] at vr_4
  refine T_eq (pc' := 24) (L' := [(0, .ref 373), (1, .int (nI 12))]) (st' := []) (M' := M_4) rfl rfl rfl rfl ?_
  refine T_aload_n (v := .ref 373) d_Mo_code_24 rfl (Or.inr ⟨_, rfl⟩) ?_
  refine T_bipush (v := nI 20) d_Mo_code_25 (by decide) ?_
  refine T_bipush (v := nI 20) d_Mo_code_27 (by decide) ?_
  refine T_bipush (v := nI 21) d_Mo_code_29 (by decide) ?_
  have r_5 := (ke_4 20 (by decide)).trans (vr_1)
  refine T_virtual (as := [.int (nI 20), .int (nI 20), .int (nI 21)]) (rest := []) (b := 373) d_Mo_code_31 rfl (jw_Mo_mul.jo (by decide)) lm_Mo_163 ji_Mo_mul js_Mo_mul hE_4.ob rfl rfl rfl (Nat.le_of_ble_eq_true rfl) (by decide) (by decide) (u_Mo_mul hE_4 (by decide) (by decide) (by decide) r_5 vr_4) (fun r M_6 hq => ?_)
  obtain ⟨rfl, E_6, hE_6, vr_6, ke_6, kp_6⟩ := hq
  obtain ⟨x_6, hx_6⟩ : ∃ z : Int, z = (x_1 * x_4) := ⟨_, rfl⟩
  rw [← hx_6] at vr_6
  refine T_eq (pc' := 34) (L' := [(0, .ref 373), (1, .int (nI 12))]) (st' := []) (M' := M_6) rfl rfl rfl rfl ?_
  refine T_aload_n (v := .ref 373) d_Mo_code_34 rfl (Or.inr ⟨_, rfl⟩) ?_
  refine T_bipush (v := nI 21) d_Mo_code_35 (by decide) ?_
  refine T_iload_n d_Mo_code_37 rfl ?_
  refine T_iload_n d_Mo_code_38 rfl ?_
  refine T_iconst (v := nI 1) d_Mo_code_39 (by decide) ?_
  refine N_iadd (a := 1) (b := 12) (c := 13) d_Mo_code_40 rfl ?_
  have r_7 := (ke_6 12 (by decide)).trans ((ke_4 12 (by decide)).trans ((ke_1 12 (by decide)).trans (ha.1)))
  have r_8 := (ke_6 13 (by decide)).trans ((ke_4 13 (by decide)).trans (r_3))
  refine T_virtual (as := [.int (nI 21), .int (nI 12), .int (nI 13)]) (rest := []) (b := 373) d_Mo_code_41 rfl (jw_Mo_mul.jo (by decide)) lm_Mo_163 ji_Mo_mul js_Mo_mul hE_6.ob rfl rfl rfl (Nat.le_of_ble_eq_true rfl) (by decide) (by decide) (u_Mo_mul hE_6 (by decide) (by decide) (by decide) r_7 r_8) (fun r M_9 hq => ?_)
  obtain ⟨rfl, E_9, hE_9, vr_9, ke_9, kp_9⟩ := hq
  obtain ⟨x_9, hx_9⟩ : ∃ z : Int, z = (X * Y) := ⟨_, rfl⟩
  rw [← hx_9] at vr_9
  refine T_eq (pc' := 44) (L' := [(0, .ref 373), (1, .int (nI 12))]) (st' := []) (M' := M_9) rfl rfl rfl rfl ?_
  refine T_aload_n (v := .ref 373) d_Mo_code_44 rfl (Or.inr ⟨_, rfl⟩) ?_
  refine T_bipush (v := nI 22) d_Mo_code_45 (by decide) ?_
  refine T_bipush (v := nI 21) d_Mo_code_47 (by decide) ?_
  refine T_bipush (v := nI 21) d_Mo_code_49 (by decide) ?_
  refine T_virtual (as := [.int (nI 22), .int (nI 21), .int (nI 21)]) (rest := []) (b := 373) d_Mo_code_51 rfl (jw_Mo_mul.jo (by decide)) lm_Mo_163 ji_Mo_mul js_Mo_mul hE_9.ob rfl rfl rfl (Nat.le_of_ble_eq_true rfl) (by decide) (by decide) (u_Mo_mul hE_9 (by decide) (by decide) (by decide) vr_9 vr_9) (fun r M_10 hq => ?_)
  obtain ⟨rfl, E_10, hE_10, vr_10, ke_10, kp_10⟩ := hq
  obtain ⟨x_10, hx_10⟩ : ∃ z : Int, z = (x_9 * x_9) := ⟨_, rfl⟩
  rw [← hx_10] at vr_10
  refine T_eq (pc' := 54) (L' := [(0, .ref 373), (1, .int (nI 12))]) (st' := []) (M' := M_10) rfl rfl rfl rfl ?_
  refine T_aload_n (v := .ref 373) d_Mo_code_54 rfl (Or.inr ⟨_, rfl⟩) ?_
  refine T_bipush (v := nI 22) d_Mo_code_55 (by decide) ?_
  refine T_bipush (v := nI 22) d_Mo_code_57 (by decide) ?_
  refine T_bipush (v := nI 20) d_Mo_code_59 (by decide) ?_
  have r_11 := (ke_10 20 (by decide)).trans ((ke_9 20 (by decide)).trans (vr_6))
  refine T_virtual (as := [.int (nI 22), .int (nI 22), .int (nI 20)]) (rest := []) (b := 373) d_Mo_code_61 rfl (jw_Mo_mul.jo (by decide)) lm_Mo_163 ji_Mo_mul js_Mo_mul hE_10.ob rfl rfl rfl (Nat.le_of_ble_eq_true rfl) (by decide) (by decide) (u_Mo_mul hE_10 (by decide) (by decide) (by decide) vr_10 r_11) (fun r M_12 hq => ?_)
  obtain ⟨rfl, E_12, hE_12, vr_12, ke_12, kp_12⟩ := hq
  obtain ⟨x_12, hx_12⟩ : ∃ z : Int, z = (x_10 * x_6) := ⟨_, rfl⟩
  rw [← hx_12] at vr_12
  refine T_eq (pc' := 64) (L' := [(0, .ref 373), (1, .int (nI 12))]) (st' := []) (M' := M_12) rfl rfl rfl rfl ?_
  refine T_aload_n (v := .ref 373) d_Mo_code_64 rfl (Or.inr ⟨_, rfl⟩) ?_
  refine T_bipush (v := nI 22) d_Mo_code_65 (by decide) ?_
  refine T_iconst (v := nI 1) d_Mo_code_67 (by decide) ?_
  refine T_bipush (v := nI 22) d_Mo_code_68 (by decide) ?_
  have r_13 := (ke_12 1 (by decide)).trans ((ke_10 1 (by decide)).trans ((ke_9 1 (by decide)).trans ((ke_6 1 (by decide)).trans ((ke_4 1 (by decide)).trans ((ke_1 1 (by decide)).trans (ck.c1))))))
  have r_14 := (ke_12 0 (by decide)).trans ((ke_10 0 (by decide)).trans ((ke_9 0 (by decide)).trans ((ke_6 0 (by decide)).trans ((ke_4 0 (by decide)).trans ((ke_1 0 (by decide)).trans (ck.c0))))))
  have r_15 := (ke_12 3 (by decide)).trans ((ke_10 3 (by decide)).trans ((ke_9 3 (by decide)).trans ((ke_6 3 (by decide)).trans ((ke_4 3 (by decide)).trans ((ke_1 3 (by decide)).trans (ck.c3))))))
  refine T_virtual (as := [.int (nI 22), .int (nI 1), .int (nI 22)]) (rest := []) (b := 373) d_Mo_code_70 rfl (jw_Mo_root.jo (by decide)) lm_Mo_197 ji_Mo_root js_Mo_root hE_12.ob rfl rfl rfl (Nat.le_of_ble_eq_true rfl) (by decide) (by decide) (u_Mo_root hE_12 r_14 r_15 (by decide) (by decide) (by decide) (by decide) (by decide) r_13 vr_12) (fun r M_16 hq => ?_)
  obtain ⟨rfl, E_16, hE_16, vr_16, ke_16, kp_16⟩ := hq
  obtain ⟨x_16, hx_16⟩ : ∃ z : Int, z = (rt 1 x_12) := ⟨_, rfl⟩
  rw [← hx_16] at vr_16
  have hg_16 := rtG_le 1 x_12
  refine T_eq (pc' := 73) (L' := [(0, .ref 373), (1, .int (nI 12))]) (st' := [.int (nI ((rtG 1 x_12)))]) (M' := M_16) rfl rfl rfl rfl ?_
  refine T_pop d_Mo_code_73 rfl ?_
  refine T_aload_n (v := .ref 373) d_Mo_code_74 rfl (Or.inr ⟨_, rfl⟩) ?_
  refine T_bipush (v := nI 23) d_Mo_code_75 (by decide) ?_
  refine T_bipush (v := nI 22) d_Mo_code_77 (by decide) ?_
  refine T_bipush (v := nI 20) d_Mo_code_79 (by decide) ?_
  have r_17 := (ke_16 20 (by decide)).trans ((ke_12 20 (by decide)).trans (r_11))
  refine T_virtual (as := [.int (nI 23), .int (nI 22), .int (nI 20)]) (rest := []) (b := 373) d_Mo_code_81 rfl (jw_Mo_mul.jo (by decide)) lm_Mo_163 ji_Mo_mul js_Mo_mul hE_16.ob rfl rfl rfl (Nat.le_of_ble_eq_true rfl) (by decide) (by decide) (u_Mo_mul hE_16 (by decide) (by decide) (by decide) vr_16 r_17) (fun r M_18 hq => ?_)
  obtain ⟨rfl, E_18, hE_18, vr_18, ke_18, kp_18⟩ := hq
  obtain ⟨x_18, hx_18⟩ : ∃ z : Int, z = (x_16 * x_6) := ⟨_, rfl⟩
  rw [← hx_18] at vr_18
  refine T_eq (pc' := 84) (L' := [(0, .ref 373), (1, .int (nI 12))]) (st' := []) (M' := M_18) rfl rfl rfl rfl ?_
  refine T_aload_n (v := .ref 373) d_Mo_code_84 rfl (Or.inr ⟨_, rfl⟩) ?_
  refine T_bipush (v := nI 24) d_Mo_code_85 (by decide) ?_
  refine T_bipush (v := nI 22) d_Mo_code_87 (by decide) ?_
  refine T_bipush (v := nI 21) d_Mo_code_89 (by decide) ?_
  have r_19 := (ke_18 22 (by decide)).trans (vr_16)
  have r_20 := (ke_18 21 (by decide)).trans ((ke_16 21 (by decide)).trans ((ke_12 21 (by decide)).trans ((ke_10 21 (by decide)).trans (vr_9))))
  refine T_virtual (as := [.int (nI 24), .int (nI 22), .int (nI 21)]) (rest := []) (b := 373) d_Mo_code_91 rfl (jw_Mo_mul.jo (by decide)) lm_Mo_163 ji_Mo_mul js_Mo_mul hE_18.ob rfl rfl rfl (Nat.le_of_ble_eq_true rfl) (by decide) (by decide) (u_Mo_mul hE_18 (by decide) (by decide) (by decide) r_19 r_20) (fun r M_21 hq => ?_)
  obtain ⟨rfl, E_21, hE_21, vr_21, ke_21, kp_21⟩ := hq
  obtain ⟨x_21, hx_21⟩ : ∃ z : Int, z = (x_16 * x_9) := ⟨_, rfl⟩
  rw [← hx_21] at vr_21
  refine T_eq (pc' := 94) (L' := [(0, .ref 373), (1, .int (nI 12))]) (st' := []) (M' := M_21) rfl rfl rfl rfl ?_
  refine T_aload_n (v := .ref 373) d_Mo_code_94 rfl (Or.inr ⟨_, rfl⟩) ?_
  refine T_bipush (v := nI 25) d_Mo_code_95 (by decide) ?_
  refine T_bipush (v := nI 23) d_Mo_code_97 (by decide) ?_
  refine T_bipush (v := nI 24) d_Mo_code_99 (by decide) ?_
  have r_22 := (ke_21 23 (by decide)).trans (vr_18)
  refine T_virtual (as := [.int (nI 25), .int (nI 23), .int (nI 24)]) (rest := []) (b := 373) d_Mo_code_101 rfl (jw_Mo_mul.jo (by decide)) lm_Mo_163 ji_Mo_mul js_Mo_mul hE_21.ob rfl rfl rfl (Nat.le_of_ble_eq_true rfl) (by decide) (by decide) (u_Mo_mul hE_21 (by decide) (by decide) (by decide) r_22 vr_21) (fun r M_23 hq => ?_)
  obtain ⟨rfl, E_23, hE_23, vr_23, ke_23, kp_23⟩ := hq
  obtain ⟨x_23, hx_23⟩ : ∃ z : Int, z = (x_18 * x_21) := ⟨_, rfl⟩
  rw [← hx_23] at vr_23
  refine T_eq (pc' := 104) (L' := [(0, .ref 373), (1, .int (nI 12))]) (st' := []) (M' := M_23) rfl rfl rfl rfl ?_
  refine T_aload_n (v := .ref 373) d_Mo_code_104 rfl (Or.inr ⟨_, rfl⟩) ?_
  refine T_bipush (v := nI 25) d_Mo_code_105 (by decide) ?_
  refine T_bipush (v := nI 25) d_Mo_code_107 (by decide) ?_
  refine T_iload_n d_Mo_code_109 rfl ?_
  refine T_iconst (v := nI 3) d_Mo_code_110 (by decide) ?_
  refine N_iadd (a := 3) (b := 12) (c := 15) d_Mo_code_111 rfl ?_
  have r_24 := (ke_23 15 (by decide)).trans ((ke_21 15 (by decide)).trans ((ke_18 15 (by decide)).trans ((ke_16 15 (by decide)).trans ((ke_12 15 (by decide)).trans ((ke_10 15 (by decide)).trans ((ke_9 15 (by decide)).trans ((ke_6 15 (by decide)).trans ((ke_4 15 (by decide)).trans ((ke_1 15 (by decide)).trans (ha.2.2.2))))))))))
  refine T_virtual (as := [.int (nI 25), .int (nI 25), .int (nI 15)]) (rest := []) (b := 373) d_Mo_code_112 rfl (jw_Mo_mul.jo (by decide)) lm_Mo_163 ji_Mo_mul js_Mo_mul hE_23.ob rfl rfl rfl (Nat.le_of_ble_eq_true rfl) (by decide) (by decide) (u_Mo_mul hE_23 (by decide) (by decide) (by decide) vr_23 r_24) (fun r M_25 hq => ?_)
  obtain ⟨rfl, E_25, hE_25, vr_25, ke_25, kp_25⟩ := hq
  obtain ⟨x_25, hx_25⟩ : ∃ z : Int, z = (x_23 * T) := ⟨_, rfl⟩
  rw [← hx_25] at vr_25
  refine T_eq (pc' := 115) (L' := [(0, .ref 373), (1, .int (nI 12))]) (st' := []) (M' := M_25) rfl rfl rfl rfl ?_
  refine T_aload_n (v := .ref 373) d_Mo_code_115 rfl (Or.inr ⟨_, rfl⟩) ?_
  refine T_bipush (v := nI 26) d_Mo_code_116 (by decide) ?_
  refine T_iload_n d_Mo_code_118 rfl ?_
  refine T_iconst (v := nI 3) d_Mo_code_119 (by decide) ?_
  refine N_iadd (a := 3) (b := 12) (c := 15) d_Mo_code_120 rfl ?_
  refine T_bipush (v := nI 25) d_Mo_code_121 (by decide) ?_
  have r_26 := (ke_25 15 (by decide)).trans (r_24)
  refine T_virtual (as := [.int (nI 26), .int (nI 15), .int (nI 25)]) (rest := []) (b := 373) d_Mo_code_123 rfl (jw_Mo_mul.jo (by decide)) lm_Mo_163 ji_Mo_mul js_Mo_mul hE_25.ob rfl rfl rfl (Nat.le_of_ble_eq_true rfl) (by decide) (by decide) (u_Mo_mul hE_25 (by decide) (by decide) (by decide) r_26 vr_25) (fun r M_27 hq => ?_)
  obtain ⟨rfl, E_27, hE_27, vr_27, ke_27, kp_27⟩ := hq
  obtain ⟨x_27, hx_27⟩ : ∃ z : Int, z = (T * x_25) := ⟨_, rfl⟩
  rw [← hx_27] at vr_27
  refine T_eq (pc' := 126) (L' := [(0, .ref 373), (1, .int (nI 12))]) (st' := []) (M' := M_27) rfl rfl rfl rfl ?_
  refine T_aload_n (v := .ref 373) d_Mo_code_126 rfl (Or.inr ⟨_, rfl⟩) ?_
  refine T_bipush (v := nI 26) d_Mo_code_127 (by decide) ?_
  refine T_virtual (as := [.int (nI 26)]) (rest := []) (b := 373) d_Mo_code_129 rfl (jw_Mo_odd.jo (by decide)) lm_Mo_174 ji_Mo_odd js_Mo_odd hE_27.ob rfl rfl rfl (Nat.le_of_ble_eq_true rfl) (by decide) (by decide) (u_Mo_odd hE_27 (by decide) vr_27) (fun r M_28 hq => ?_)
  obtain ⟨rfl, pk_28, E_28, hE_28, ke_28, kp_28⟩ := hq
  by_cases hb_28 : (x_27 % pP) % 2 = 1
  · rw [if_pos hb_28]
    refine T_eq (pc' := 132) (L' := [(0, .ref 373), (1, .int (nI 12))]) (st' := [.int (nI 1)]) (M' := M_28) rfl rfl rfl rfl ?_
    refine N_if_eq_f (b := 1) d_Mo_code_132 (tgt := 165) rfl (by omega) (by omega) ?_
    refine T_aload_n (v := .ref 373) d_Mo_code_135 rfl (Or.inr ⟨_, rfl⟩) ?_
    refine T_bipush (v := nI 27) d_Mo_code_136 (by decide) ?_
    refine T_iconst (v := nI 3) d_Mo_code_138 (by decide) ?_
    refine T_iload_n d_Mo_code_139 rfl ?_
    refine T_iconst (v := nI 1) d_Mo_code_140 (by decide) ?_
    refine N_iadd (a := 1) (b := 12) (c := 13) d_Mo_code_141 rfl ?_
    have r_29 := (ke_28 3 (by decide)).trans ((ke_27 3 (by decide)).trans ((ke_25 3 (by decide)).trans ((ke_23 3 (by decide)).trans ((ke_21 3 (by decide)).trans ((ke_18 3 (by decide)).trans ((ke_16 3 (by decide)).trans (r_15)))))))
    have r_30 := (ke_28 13 (by decide)).trans ((ke_27 13 (by decide)).trans ((ke_25 13 (by decide)).trans ((ke_23 13 (by decide)).trans ((ke_21 13 (by decide)).trans ((ke_18 13 (by decide)).trans ((ke_16 13 (by decide)).trans ((ke_12 13 (by decide)).trans ((ke_10 13 (by decide)).trans ((ke_9 13 (by decide)).trans (r_8))))))))))
    refine T_virtual (as := [.int (nI 27), .int (nI 3), .int (nI 13)]) (rest := []) (b := 373) d_Mo_code_142 rfl (jw_Mo_mul.jo (by decide)) lm_Mo_163 ji_Mo_mul js_Mo_mul hE_28.ob rfl rfl rfl (Nat.le_of_ble_eq_true rfl) (by decide) (by decide) (u_Mo_mul hE_28 (by decide) (by decide) (by decide) r_29 r_30) (fun r M_31 hq => ?_)
    obtain ⟨rfl, E_31, hE_31, vr_31, ke_31, kp_31⟩ := hq
    obtain ⟨x_31, hx_31⟩ : ∃ z : Int, z = (cI * Y) := ⟨_, rfl⟩
    rw [← hx_31] at vr_31
    refine T_eq (pc' := 145) (L' := [(0, .ref 373), (1, .int (nI 12))]) (st' := []) (M' := M_31) rfl rfl rfl rfl ?_
    refine T_aload_n (v := .ref 373) d_Mo_code_145 rfl (Or.inr ⟨_, rfl⟩) ?_
    refine T_bipush (v := nI 28) d_Mo_code_146 (by decide) ?_
    refine T_iconst (v := nI 3) d_Mo_code_148 (by decide) ?_
    refine T_iload_n d_Mo_code_149 rfl ?_
    have r_32 := (ke_31 3 (by decide)).trans (r_29)
    have r_33 := (ke_31 12 (by decide)).trans ((ke_28 12 (by decide)).trans ((ke_27 12 (by decide)).trans ((ke_25 12 (by decide)).trans ((ke_23 12 (by decide)).trans ((ke_21 12 (by decide)).trans ((ke_18 12 (by decide)).trans ((ke_16 12 (by decide)).trans ((ke_12 12 (by decide)).trans ((ke_10 12 (by decide)).trans ((ke_9 12 (by decide)).trans (r_7)))))))))))
    refine T_virtual (as := [.int (nI 28), .int (nI 3), .int (nI 12)]) (rest := []) (b := 373) d_Mo_code_150 rfl (jw_Mo_mul.jo (by decide)) lm_Mo_163 ji_Mo_mul js_Mo_mul hE_31.ob rfl rfl rfl (Nat.le_of_ble_eq_true rfl) (by decide) (by decide) (u_Mo_mul hE_31 (by decide) (by decide) (by decide) r_32 r_33) (fun r M_34 hq => ?_)
    obtain ⟨rfl, E_34, hE_34, vr_34, ke_34, kp_34⟩ := hq
    obtain ⟨x_34, hx_34⟩ : ∃ z : Int, z = (cI * X) := ⟨_, rfl⟩
    rw [← hx_34] at vr_34
    refine T_eq (pc' := 153) (L' := [(0, .ref 373), (1, .int (nI 12))]) (st' := []) (M' := M_34) rfl rfl rfl rfl ?_
    refine T_aload_n (v := .ref 373) d_Mo_code_153 rfl (Or.inr ⟨_, rfl⟩) ?_
    refine T_bipush (v := nI 29) d_Mo_code_154 (by decide) ?_
    refine T_bipush (v := nI 23) d_Mo_code_156 (by decide) ?_
    refine T_iconst (v := nI 4) d_Mo_code_158 (by decide) ?_
    have r_35 := (ke_34 23 (by decide)).trans ((ke_31 23 (by decide)).trans ((ke_28 23 (by decide)).trans ((ke_27 23 (by decide)).trans ((ke_25 23 (by decide)).trans ((ke_23 23 (by decide)).trans (r_22))))))
    have r_36 := (ke_34 4 (by decide)).trans ((ke_31 4 (by decide)).trans ((ke_28 4 (by decide)).trans ((ke_27 4 (by decide)).trans ((ke_25 4 (by decide)).trans ((ke_23 4 (by decide)).trans ((ke_21 4 (by decide)).trans ((ke_18 4 (by decide)).trans ((ke_16 4 (by decide)).trans ((ke_12 4 (by decide)).trans ((ke_10 4 (by decide)).trans ((ke_9 4 (by decide)).trans ((ke_6 4 (by decide)).trans ((ke_4 4 (by decide)).trans ((ke_1 4 (by decide)).trans (ck.c4)))))))))))))))
    refine T_virtual (as := [.int (nI 29), .int (nI 23), .int (nI 4)]) (rest := []) (b := 373) d_Mo_code_159 rfl (jw_Mo_mul.jo (by decide)) lm_Mo_163 ji_Mo_mul js_Mo_mul hE_34.ob rfl rfl rfl (Nat.le_of_ble_eq_true rfl) (by decide) (by decide) (u_Mo_mul hE_34 (by decide) (by decide) (by decide) r_35 r_36) (fun r M_37 hq => ?_)
    obtain ⟨rfl, E_37, hE_37, vr_37, ke_37, kp_37⟩ := hq
    obtain ⟨x_37, hx_37⟩ : ∃ z : Int, z = (x_18 * cE) := ⟨_, rfl⟩
    rw [← hx_37] at vr_37
    refine T_eq (pc' := 162) (L' := [(0, .ref 373), (1, .int (nI 12))]) (st' := []) (M' := M_37) rfl rfl rfl rfl ?_
    refine T_goto (tgt := 189) d_Mo_code_162 rfl ?_
    refine T_aload_n (v := .ref 373) d_Mo_code_189 rfl (Or.inr ⟨_, rfl⟩) ?_
    refine T_bipush (v := nI 26) d_Mo_code_190 (by decide) ?_
    refine T_bipush (v := nI 27) d_Mo_code_192 (by decide) ?_
    refine T_bipush (v := nI 25) d_Mo_code_194 (by decide) ?_
    have r_38 := (ke_37 27 (by decide)).trans ((ke_34 27 (by decide)).trans (vr_31))
    have r_39 := (ke_37 25 (by decide)).trans ((ke_34 25 (by decide)).trans ((ke_31 25 (by decide)).trans ((ke_28 25 (by decide)).trans ((ke_27 25 (by decide)).trans (vr_25)))))
    refine T_virtual (as := [.int (nI 26), .int (nI 27), .int (nI 25)]) (rest := []) (b := 373) d_Mo_code_196 rfl (jw_Mo_mul.jo (by decide)) lm_Mo_163 ji_Mo_mul js_Mo_mul hE_37.ob rfl rfl rfl (Nat.le_of_ble_eq_true rfl) (by decide) (by decide) (u_Mo_mul hE_37 (by decide) (by decide) (by decide) r_38 r_39) (fun r M_40 hq => ?_)
    obtain ⟨rfl, E_40, hE_40, vr_40, ke_40, kp_40⟩ := hq
    obtain ⟨x_40, hx_40⟩ : ∃ z : Int, z = (x_31 * x_25) := ⟨_, rfl⟩
    rw [← hx_40] at vr_40
    refine T_eq (pc' := 199) (L' := [(0, .ref 373), (1, .int (nI 12))]) (st' := []) (M' := M_40) rfl rfl rfl rfl ?_
    refine T_aload_n (v := .ref 373) d_Mo_code_199 rfl (Or.inr ⟨_, rfl⟩) ?_
    refine T_bipush (v := nI 26) d_Mo_code_200 (by decide) ?_
    refine T_virtual (as := [.int (nI 26)]) (rest := []) (b := 373) d_Mo_code_202 rfl (jw_Mo_odd.jo (by decide)) lm_Mo_174 ji_Mo_odd js_Mo_odd hE_40.ob rfl rfl rfl (Nat.le_of_ble_eq_true rfl) (by decide) (by decide) (u_Mo_odd hE_40 (by decide) vr_40) (fun r M_41 hq => ?_)
    obtain ⟨rfl, pk_41, E_41, hE_41, ke_41, kp_41⟩ := hq
    by_cases hb_41 : (x_40 % pP) % 2 = 1
    · rw [if_pos hb_41]
      refine T_eq (pc' := 205) (L' := [(0, .ref 373), (1, .int (nI 12))]) (st' := [.int (nI 1)]) (M' := M_41) rfl rfl rfl rfl ?_
      refine N_if_eq_f (b := 1) d_Mo_code_205 (tgt := 217) rfl (by omega) (by omega) ?_
      refine T_aload_n (v := .ref 373) d_Mo_code_208 rfl (Or.inr ⟨_, rfl⟩) ?_
      refine T_bipush (v := nI 28) d_Mo_code_209 (by decide) ?_
      refine T_iconst (v := nI 0) d_Mo_code_211 (by decide) ?_
      refine T_bipush (v := nI 28) d_Mo_code_212 (by decide) ?_
      have r_42 := (ke_41 0 (by decide)).trans ((ke_40 0 (by decide)).trans ((ke_37 0 (by decide)).trans ((ke_34 0 (by decide)).trans ((ke_31 0 (by decide)).trans ((ke_28 0 (by decide)).trans ((ke_27 0 (by decide)).trans ((ke_25 0 (by decide)).trans ((ke_23 0 (by decide)).trans ((ke_21 0 (by decide)).trans ((ke_18 0 (by decide)).trans ((ke_16 0 (by decide)).trans (r_14))))))))))))
      have r_43 := (ke_41 28 (by decide)).trans ((ke_40 28 (by decide)).trans ((ke_37 28 (by decide)).trans (vr_34)))
      refine T_virtual (as := [.int (nI 28), .int (nI 0), .int (nI 28)]) (rest := []) (b := 373) d_Mo_code_214 rfl (jw_Mo_sub.jo (by decide)) lm_Mo_152 ji_Mo_sub js_Mo_sub hE_41.ob rfl rfl rfl (Nat.le_of_ble_eq_true rfl) (by decide) (by decide) (u_Mo_sub hE_41 (by decide) (by decide) (by decide) r_42 r_43) (fun r M_44 hq => ?_)
      obtain ⟨rfl, E_44, hE_44, vr_44, ke_44, kp_44⟩ := hq
      obtain ⟨x_44, hx_44⟩ : ∃ z : Int, z = (0 - x_34) := ⟨_, rfl⟩
      rw [← hx_44] at vr_44
      refine T_eq (pc' := 217) (L' := [(0, .ref 373), (1, .int (nI 12))]) (st' := []) (M' := M_44) rfl rfl rfl rfl ?_
      refine T_aload_n (v := .ref 373) d_Mo_code_217 rfl (Or.inr ⟨_, rfl⟩) ?_
      refine T_bipush (v := nI 28) d_Mo_code_218 (by decide) ?_
      refine T_iload_n d_Mo_code_220 rfl ?_
      refine T_iconst (v := nI 2) d_Mo_code_221 (by decide) ?_
      refine N_iadd (a := 2) (b := 12) (c := 14) d_Mo_code_222 rfl ?_
      refine T_bipush (v := nI 28) d_Mo_code_223 (by decide) ?_
      have r_45 := (ke_44 14 (by decide)).trans ((ke_41 14 (by decide)).trans ((ke_40 14 (by decide)).trans ((ke_37 14 (by decide)).trans ((ke_34 14 (by decide)).trans ((ke_31 14 (by decide)).trans ((ke_28 14 (by decide)).trans ((ke_27 14 (by decide)).trans ((ke_25 14 (by decide)).trans ((ke_23 14 (by decide)).trans ((ke_21 14 (by decide)).trans ((ke_18 14 (by decide)).trans ((ke_16 14 (by decide)).trans ((ke_12 14 (by decide)).trans ((ke_10 14 (by decide)).trans ((ke_9 14 (by decide)).trans ((ke_6 14 (by decide)).trans ((ke_4 14 (by decide)).trans (r_2))))))))))))))))))
      refine T_virtual (as := [.int (nI 28), .int (nI 14), .int (nI 28)]) (rest := []) (b := 373) d_Mo_code_225 rfl (jw_Mo_sub.jo (by decide)) lm_Mo_152 ji_Mo_sub js_Mo_sub hE_44.ob rfl rfl rfl (Nat.le_of_ble_eq_true rfl) (by decide) (by decide) (u_Mo_sub hE_44 (by decide) (by decide) (by decide) r_45 vr_44) (fun r M_46 hq => ?_)
      obtain ⟨rfl, E_46, hE_46, vr_46, ke_46, kp_46⟩ := hq
      obtain ⟨x_46, hx_46⟩ : ∃ z : Int, z = (Z - x_44) := ⟨_, rfl⟩
      rw [← hx_46] at vr_46
      refine T_eq (pc' := 228) (L' := [(0, .ref 373), (1, .int (nI 12))]) (st' := []) (M' := M_46) rfl rfl rfl rfl ?_
      refine T_aload_n (v := .ref 373) d_Mo_code_228 rfl (Or.inr ⟨_, rfl⟩) ?_
      refine T_bipush (v := nI 29) d_Mo_code_229 (by decide) ?_
      refine T_bipush (v := nI 29) d_Mo_code_231 (by decide) ?_
      refine T_bipush (v := nI 28) d_Mo_code_233 (by decide) ?_
      have r_47 := (ke_46 29 (by decide)).trans ((ke_44 29 (by decide)).trans ((ke_41 29 (by decide)).trans ((ke_40 29 (by decide)).trans (vr_37))))
      refine T_virtual (as := [.int (nI 29), .int (nI 29), .int (nI 28)]) (rest := []) (b := 373) d_Mo_code_235 rfl (jw_Mo_mul.jo (by decide)) lm_Mo_163 ji_Mo_mul js_Mo_mul hE_46.ob rfl rfl rfl (Nat.le_of_ble_eq_true rfl) (by decide) (by decide) (u_Mo_mul hE_46 (by decide) (by decide) (by decide) r_47 vr_46) (fun r M_48 hq => ?_)
      obtain ⟨rfl, E_48, hE_48, vr_48, ke_48, kp_48⟩ := hq
      obtain ⟨x_48, hx_48⟩ : ∃ z : Int, z = (x_37 * x_46) := ⟨_, rfl⟩
      rw [← hx_48] at vr_48
      refine T_eq (pc' := 238) (L' := [(0, .ref 373), (1, .int (nI 12))]) (st' := []) (M' := M_48) rfl rfl rfl rfl ?_
      refine T_aload_n (v := .ref 373) d_Mo_code_238 rfl (Or.inr ⟨_, rfl⟩) ?_
      refine T_bipush (v := nI 29) d_Mo_code_239 (by decide) ?_
      refine T_virtual (as := [.int (nI 29)]) (rest := []) (b := 373) d_Mo_code_241 rfl (jw_Mo_odd.jo (by decide)) lm_Mo_174 ji_Mo_odd js_Mo_odd hE_48.ob rfl rfl rfl (Nat.le_of_ble_eq_true rfl) (by decide) (by decide) (u_Mo_odd hE_48 (by decide) vr_48) (fun r M_49 hq => ?_)
      obtain ⟨rfl, pk_49, E_49, hE_49, ke_49, kp_49⟩ := hq
      by_cases hb_49 : (x_48 % pP) % 2 = 1
      · rw [if_pos hb_49]
        refine T_eq (pc' := 244) (L' := [(0, .ref 373), (1, .int (nI 12))]) (st' := [.int (nI 1)]) (M' := M_49) rfl rfl rfl rfl ?_
        refine N_if_eq_f (b := 1) d_Mo_code_244 (tgt := 256) rfl (by omega) (by omega) ?_
        refine T_aload_n (v := .ref 373) d_Mo_code_247 rfl (Or.inr ⟨_, rfl⟩) ?_
        refine T_bipush (v := nI 29) d_Mo_code_248 (by decide) ?_
        refine T_iconst (v := nI 0) d_Mo_code_250 (by decide) ?_
        refine T_bipush (v := nI 29) d_Mo_code_251 (by decide) ?_
        have r_50 := (ke_49 0 (by decide)).trans ((ke_48 0 (by decide)).trans ((ke_46 0 (by decide)).trans ((ke_44 0 (by decide)).trans (r_42))))
        have r_51 := (ke_49 29 (by decide)).trans (vr_48)
        refine T_virtual (as := [.int (nI 29), .int (nI 0), .int (nI 29)]) (rest := []) (b := 373) d_Mo_code_253 rfl (jw_Mo_sub.jo (by decide)) lm_Mo_152 ji_Mo_sub js_Mo_sub hE_49.ob rfl rfl rfl (Nat.le_of_ble_eq_true rfl) (by decide) (by decide) (u_Mo_sub hE_49 (by decide) (by decide) (by decide) r_50 r_51) (fun r M_52 hq => ?_)
        obtain ⟨rfl, E_52, hE_52, vr_52, ke_52, kp_52⟩ := hq
        obtain ⟨x_52, hx_52⟩ : ∃ z : Int, z = (0 - x_48) := ⟨_, rfl⟩
        rw [← hx_52] at vr_52
        refine T_eq (pc' := 256) (L' := [(0, .ref 373), (1, .int (nI 12))]) (st' := []) (M' := M_52) rfl rfl rfl rfl ?_
        refine T_aload_n (v := .ref 373) d_Mo_code_256 rfl (Or.inr ⟨_, rfl⟩) ?_
        refine T_bipush (v := nI 29) d_Mo_code_257 (by decide) ?_
        refine T_virtual (as := [.int (nI 29)]) (rest := []) (b := 373) d_Mo_code_259 rfl (jw_Mo_pack.jo (by decide)) lm_Mo_149 ji_Mo_pack js_Mo_pack hE_52.ob rfl rfl rfl (Nat.le_of_ble_eq_true rfl) (by decide) (by decide) (u_Mo_pack hE_52 (by decide) vr_52) (fun r M_53 hq => ?_)
        obtain ⟨rfl, pk_53, E_53, hE_53, ke_53, kp_53⟩ := hq
        refine T_eq (pc' := 262) (L' := [(0, .ref 373), (1, .int (nI 12))]) (st' := []) (M' := M_53) rfl rfl rfl rfl ?_
        have a20 : ph x_6 = cAq (ph Y) (ph Z) := by rw [hx_6, ph_mul, hx_4, ph_sub, hx_1, ph_add]; rfl
        have a21 : ph x_9 = ph X * ph Y := by rw [hx_9, ph_mul]
        have aR : ph x_16 = cR (ph X) (ph Y) (ph Z) := by rw [hx_16, ph_rt, ph_1, hx_12, ph_mul, hx_10, ph_mul, a20, a21]; rfl
        have aS : ph x_25 = cS (ph X) (ph Y) (ph Z) (ph T) := by
          rw [hx_25, ph_mul, hx_23, ph_mul, hx_21, ph_mul, hx_18, ph_mul, aR, a20, a21]; unfold cS; grind -lia -linarith
        have t1 : ph x_27 = ph x_25 * ph T := by rw [hx_27, ph_mul, Lean.Grind.CommSemiring.mul_comm]
        have he : ph x_31 = ph Y * fI := by rw [hx_31, ph_mul, ph_cI, Lean.Grind.CommSemiring.mul_comm]
        have hf : ph x_34 = ph X * fI := by rw [hx_34, ph_mul, ph_cI, Lean.Grind.CommSemiring.mul_comm]
        have hg : ph x_37 = cAq (ph Y) (ph Z) * cR (ph X) (ph Y) (ph Z) * fE := by rw [hx_37, ph_mul, ph_cE, hx_18, ph_mul, aR, a20]; grind -lia -linarith
        have t2 : ph x_40 = ph x_31 * ph x_25 := by rw [hx_40, ph_mul]
        have hq : ph x_48 = (ph Z - ph x_44) * ph x_37 := by rw [hx_48, ph_mul, hx_46, ph_sub, Lean.Grind.CommSemiring.mul_comm]
        have hc : ph x_52 = cF (ph X) (ph Y) (ph Z) (ph T) := by
          refine cF_of (S := ph x_25) (e := ph x_31) (f := ph x_34) (g := ph x_37) (f' := ph x_44) (q := ph x_48) aS ?_ ?_ hq ?_
          · exact Or.inl ⟨(od_of t1).mpr hb_28, he, hf, hg⟩
          · exact Or.inl ⟨(od_of t2).mpr hb_41, by rw [hx_44, ph_zs]⟩
          · exact Or.inl ⟨od_ph.mpr hb_49, by rw [hx_52, ph_zs]⟩
        exact T_vret d_Mo_code_262 rfl (by decide) (by decide) ⟨rfl, ⟨_, pk_53, hc⟩, _, hE_53, (KE.tr (KE.tr (KE.tr (KE.tr (KE.tr (KE.tr (KE.tr (KE.tr (KE.tr (KE.tr (KE.tr (KE.tr (KE.tr (KE.tr (KE.tr (KE.tr (KE.tr (KE.tr (KE.tr (KE.tr (KE.tr (KE.tr (KE.tr (KE.tr (KE.rf : KE [20, 21, 22, 23, 24, 25, 26, 27, 28, 29, 50, 51, 52, 53, 54, 55, 56, 61, 62, 63] E E) (KE.mono ke_1 (by decide))) (KE.mono ke_4 (by decide))) (KE.mono ke_6 (by decide))) (KE.mono ke_9 (by decide))) (KE.mono ke_10 (by decide))) (KE.mono ke_12 (by decide))) (KE.mono ke_16 (by decide))) (KE.mono ke_18 (by decide))) (KE.mono ke_21 (by decide))) (KE.mono ke_23 (by decide))) (KE.mono ke_25 (by decide))) (KE.mono ke_27 (by decide))) (KE.mono ke_28 (by decide))) (KE.mono ke_31 (by decide))) (KE.mono ke_34 (by decide))) (KE.mono ke_37 (by decide))) (KE.mono ke_40 (by decide))) (KE.mono ke_41 (by decide))) (KE.mono ke_44 (by decide))) (KE.mono ke_46 (by decide))) (KE.mono ke_48 (by decide))) (KE.mono ke_49 (by decide))) (KE.mono ke_52 (by decide))) (KE.mono ke_53 (by decide))), (Kp.tr (Kp.tr (Kp.tr (Kp.tr (Kp.tr (Kp.tr (Kp.tr (Kp.tr (Kp.tr (Kp.tr (Kp.tr (Kp.tr (Kp.tr (Kp.tr (Kp.tr (Kp.tr (Kp.tr (Kp.tr (Kp.tr (Kp.tr (Kp.tr (Kp.tr (Kp.tr (Kp.tr (Kp.rf : Kp [390, 391, 392, 393, 394] M M) (Kp.mono kp_1 (by decide))) (Kp.mono kp_4 (by decide))) (Kp.mono kp_6 (by decide))) (Kp.mono kp_9 (by decide))) (Kp.mono kp_10 (by decide))) (Kp.mono kp_12 (by decide))) (Kp.mono kp_16 (by decide))) (Kp.mono kp_18 (by decide))) (Kp.mono kp_21 (by decide))) (Kp.mono kp_23 (by decide))) (Kp.mono kp_25 (by decide))) (Kp.mono kp_27 (by decide))) (Kp.mono kp_28 (by decide))) (Kp.mono kp_31 (by decide))) (Kp.mono kp_34 (by decide))) (Kp.mono kp_37 (by decide))) (Kp.mono kp_40 (by decide))) (Kp.mono kp_41 (by decide))) (Kp.mono kp_44 (by decide))) (Kp.mono kp_46 (by decide))) (Kp.mono kp_48 (by decide))) (Kp.mono kp_49 (by decide))) (Kp.mono kp_52 (by decide))) (Kp.mono kp_53 (by decide)))⟩
      · rw [if_neg hb_49]
        refine T_eq (pc' := 244) (L' := [(0, .ref 373), (1, .int (nI 12))]) (st' := [.int (nI 0)]) (M' := M_49) rfl rfl rfl rfl ?_
        refine N_if_eq_t (b := 0) d_Mo_code_244 (tgt := 256) rfl (by omega) (by omega) ?_
        refine T_aload_n (v := .ref 373) d_Mo_code_256 rfl (Or.inr ⟨_, rfl⟩) ?_
        refine T_bipush (v := nI 29) d_Mo_code_257 (by decide) ?_
        have r_54 := (ke_49 29 (by decide)).trans (vr_48)
        refine T_virtual (as := [.int (nI 29)]) (rest := []) (b := 373) d_Mo_code_259 rfl (jw_Mo_pack.jo (by decide)) lm_Mo_149 ji_Mo_pack js_Mo_pack hE_49.ob rfl rfl rfl (Nat.le_of_ble_eq_true rfl) (by decide) (by decide) (u_Mo_pack hE_49 (by decide) r_54) (fun r M_55 hq => ?_)
        obtain ⟨rfl, pk_55, E_55, hE_55, ke_55, kp_55⟩ := hq
        refine T_eq (pc' := 262) (L' := [(0, .ref 373), (1, .int (nI 12))]) (st' := []) (M' := M_55) rfl rfl rfl rfl ?_
        have a20 : ph x_6 = cAq (ph Y) (ph Z) := by rw [hx_6, ph_mul, hx_4, ph_sub, hx_1, ph_add]; rfl
        have a21 : ph x_9 = ph X * ph Y := by rw [hx_9, ph_mul]
        have aR : ph x_16 = cR (ph X) (ph Y) (ph Z) := by rw [hx_16, ph_rt, ph_1, hx_12, ph_mul, hx_10, ph_mul, a20, a21]; rfl
        have aS : ph x_25 = cS (ph X) (ph Y) (ph Z) (ph T) := by
          rw [hx_25, ph_mul, hx_23, ph_mul, hx_21, ph_mul, hx_18, ph_mul, aR, a20, a21]; unfold cS; grind -lia -linarith
        have t1 : ph x_27 = ph x_25 * ph T := by rw [hx_27, ph_mul, Lean.Grind.CommSemiring.mul_comm]
        have he : ph x_31 = ph Y * fI := by rw [hx_31, ph_mul, ph_cI, Lean.Grind.CommSemiring.mul_comm]
        have hf : ph x_34 = ph X * fI := by rw [hx_34, ph_mul, ph_cI, Lean.Grind.CommSemiring.mul_comm]
        have hg : ph x_37 = cAq (ph Y) (ph Z) * cR (ph X) (ph Y) (ph Z) * fE := by rw [hx_37, ph_mul, ph_cE, hx_18, ph_mul, aR, a20]; grind -lia -linarith
        have t2 : ph x_40 = ph x_31 * ph x_25 := by rw [hx_40, ph_mul]
        have hq : ph x_48 = (ph Z - ph x_44) * ph x_37 := by rw [hx_48, ph_mul, hx_46, ph_sub, Lean.Grind.CommSemiring.mul_comm]
        have hc : ph x_48 = cF (ph X) (ph Y) (ph Z) (ph T) := by
          refine cF_of (S := ph x_25) (e := ph x_31) (f := ph x_34) (g := ph x_37) (f' := ph x_44) (q := ph x_48) aS ?_ ?_ hq ?_
          · exact Or.inl ⟨(od_of t1).mpr hb_28, he, hf, hg⟩
          · exact Or.inl ⟨(od_of t2).mpr hb_41, by rw [hx_44, ph_zs]⟩
          · exact Or.inr ⟨fun z => hb_49 (od_ph.mp z), rfl⟩
        exact T_vret d_Mo_code_262 rfl (by decide) (by decide) ⟨rfl, ⟨_, pk_55, hc⟩, _, hE_55, (KE.tr (KE.tr (KE.tr (KE.tr (KE.tr (KE.tr (KE.tr (KE.tr (KE.tr (KE.tr (KE.tr (KE.tr (KE.tr (KE.tr (KE.tr (KE.tr (KE.tr (KE.tr (KE.tr (KE.tr (KE.tr (KE.tr (KE.tr (KE.rf : KE [20, 21, 22, 23, 24, 25, 26, 27, 28, 29, 50, 51, 52, 53, 54, 55, 56, 61, 62, 63] E E) (KE.mono ke_1 (by decide))) (KE.mono ke_4 (by decide))) (KE.mono ke_6 (by decide))) (KE.mono ke_9 (by decide))) (KE.mono ke_10 (by decide))) (KE.mono ke_12 (by decide))) (KE.mono ke_16 (by decide))) (KE.mono ke_18 (by decide))) (KE.mono ke_21 (by decide))) (KE.mono ke_23 (by decide))) (KE.mono ke_25 (by decide))) (KE.mono ke_27 (by decide))) (KE.mono ke_28 (by decide))) (KE.mono ke_31 (by decide))) (KE.mono ke_34 (by decide))) (KE.mono ke_37 (by decide))) (KE.mono ke_40 (by decide))) (KE.mono ke_41 (by decide))) (KE.mono ke_44 (by decide))) (KE.mono ke_46 (by decide))) (KE.mono ke_48 (by decide))) (KE.mono ke_49 (by decide))) (KE.mono ke_55 (by decide))), (Kp.tr (Kp.tr (Kp.tr (Kp.tr (Kp.tr (Kp.tr (Kp.tr (Kp.tr (Kp.tr (Kp.tr (Kp.tr (Kp.tr (Kp.tr (Kp.tr (Kp.tr (Kp.tr (Kp.tr (Kp.tr (Kp.tr (Kp.tr (Kp.tr (Kp.tr (Kp.tr (Kp.rf : Kp [390, 391, 392, 393, 394] M M) (Kp.mono kp_1 (by decide))) (Kp.mono kp_4 (by decide))) (Kp.mono kp_6 (by decide))) (Kp.mono kp_9 (by decide))) (Kp.mono kp_10 (by decide))) (Kp.mono kp_12 (by decide))) (Kp.mono kp_16 (by decide))) (Kp.mono kp_18 (by decide))) (Kp.mono kp_21 (by decide))) (Kp.mono kp_23 (by decide))) (Kp.mono kp_25 (by decide))) (Kp.mono kp_27 (by decide))) (Kp.mono kp_28 (by decide))) (Kp.mono kp_31 (by decide))) (Kp.mono kp_34 (by decide))) (Kp.mono kp_37 (by decide))) (Kp.mono kp_40 (by decide))) (Kp.mono kp_41 (by decide))) (Kp.mono kp_44 (by decide))) (Kp.mono kp_46 (by decide))) (Kp.mono kp_48 (by decide))) (Kp.mono kp_49 (by decide))) (Kp.mono kp_55 (by decide)))⟩
    · rw [if_neg hb_41]
      refine T_eq (pc' := 205) (L' := [(0, .ref 373), (1, .int (nI 12))]) (st' := [.int (nI 0)]) (M' := M_41) rfl rfl rfl rfl ?_
      refine N_if_eq_t (b := 0) d_Mo_code_205 (tgt := 217) rfl (by omega) (by omega) ?_
      refine T_aload_n (v := .ref 373) d_Mo_code_217 rfl (Or.inr ⟨_, rfl⟩) ?_
      refine T_bipush (v := nI 28) d_Mo_code_218 (by decide) ?_
      refine T_iload_n d_Mo_code_220 rfl ?_
      refine T_iconst (v := nI 2) d_Mo_code_221 (by decide) ?_
      refine N_iadd (a := 2) (b := 12) (c := 14) d_Mo_code_222 rfl ?_
      refine T_bipush (v := nI 28) d_Mo_code_223 (by decide) ?_
      have r_56 := (ke_41 14 (by decide)).trans ((ke_40 14 (by decide)).trans ((ke_37 14 (by decide)).trans ((ke_34 14 (by decide)).trans ((ke_31 14 (by decide)).trans ((ke_28 14 (by decide)).trans ((ke_27 14 (by decide)).trans ((ke_25 14 (by decide)).trans ((ke_23 14 (by decide)).trans ((ke_21 14 (by decide)).trans ((ke_18 14 (by decide)).trans ((ke_16 14 (by decide)).trans ((ke_12 14 (by decide)).trans ((ke_10 14 (by decide)).trans ((ke_9 14 (by decide)).trans ((ke_6 14 (by decide)).trans ((ke_4 14 (by decide)).trans (r_2)))))))))))))))))
      have r_57 := (ke_41 28 (by decide)).trans ((ke_40 28 (by decide)).trans ((ke_37 28 (by decide)).trans (vr_34)))
      refine T_virtual (as := [.int (nI 28), .int (nI 14), .int (nI 28)]) (rest := []) (b := 373) d_Mo_code_225 rfl (jw_Mo_sub.jo (by decide)) lm_Mo_152 ji_Mo_sub js_Mo_sub hE_41.ob rfl rfl rfl (Nat.le_of_ble_eq_true rfl) (by decide) (by decide) (u_Mo_sub hE_41 (by decide) (by decide) (by decide) r_56 r_57) (fun r M_58 hq => ?_)
      obtain ⟨rfl, E_58, hE_58, vr_58, ke_58, kp_58⟩ := hq
      obtain ⟨x_58, hx_58⟩ : ∃ z : Int, z = (Z - x_34) := ⟨_, rfl⟩
      rw [← hx_58] at vr_58
      refine T_eq (pc' := 228) (L' := [(0, .ref 373), (1, .int (nI 12))]) (st' := []) (M' := M_58) rfl rfl rfl rfl ?_
      refine T_aload_n (v := .ref 373) d_Mo_code_228 rfl (Or.inr ⟨_, rfl⟩) ?_
      refine T_bipush (v := nI 29) d_Mo_code_229 (by decide) ?_
      refine T_bipush (v := nI 29) d_Mo_code_231 (by decide) ?_
      refine T_bipush (v := nI 28) d_Mo_code_233 (by decide) ?_
      have r_59 := (ke_58 29 (by decide)).trans ((ke_41 29 (by decide)).trans ((ke_40 29 (by decide)).trans (vr_37)))
      refine T_virtual (as := [.int (nI 29), .int (nI 29), .int (nI 28)]) (rest := []) (b := 373) d_Mo_code_235 rfl (jw_Mo_mul.jo (by decide)) lm_Mo_163 ji_Mo_mul js_Mo_mul hE_58.ob rfl rfl rfl (Nat.le_of_ble_eq_true rfl) (by decide) (by decide) (u_Mo_mul hE_58 (by decide) (by decide) (by decide) r_59 vr_58) (fun r M_60 hq => ?_)
      obtain ⟨rfl, E_60, hE_60, vr_60, ke_60, kp_60⟩ := hq
      obtain ⟨x_60, hx_60⟩ : ∃ z : Int, z = (x_37 * x_58) := ⟨_, rfl⟩
      rw [← hx_60] at vr_60
      refine T_eq (pc' := 238) (L' := [(0, .ref 373), (1, .int (nI 12))]) (st' := []) (M' := M_60) rfl rfl rfl rfl ?_
      refine T_aload_n (v := .ref 373) d_Mo_code_238 rfl (Or.inr ⟨_, rfl⟩) ?_
      refine T_bipush (v := nI 29) d_Mo_code_239 (by decide) ?_
      refine T_virtual (as := [.int (nI 29)]) (rest := []) (b := 373) d_Mo_code_241 rfl (jw_Mo_odd.jo (by decide)) lm_Mo_174 ji_Mo_odd js_Mo_odd hE_60.ob rfl rfl rfl (Nat.le_of_ble_eq_true rfl) (by decide) (by decide) (u_Mo_odd hE_60 (by decide) vr_60) (fun r M_61 hq => ?_)
      obtain ⟨rfl, pk_61, E_61, hE_61, ke_61, kp_61⟩ := hq
      by_cases hb_61 : (x_60 % pP) % 2 = 1
      · rw [if_pos hb_61]
        refine T_eq (pc' := 244) (L' := [(0, .ref 373), (1, .int (nI 12))]) (st' := [.int (nI 1)]) (M' := M_61) rfl rfl rfl rfl ?_
        refine N_if_eq_f (b := 1) d_Mo_code_244 (tgt := 256) rfl (by omega) (by omega) ?_
        refine T_aload_n (v := .ref 373) d_Mo_code_247 rfl (Or.inr ⟨_, rfl⟩) ?_
        refine T_bipush (v := nI 29) d_Mo_code_248 (by decide) ?_
        refine T_iconst (v := nI 0) d_Mo_code_250 (by decide) ?_
        refine T_bipush (v := nI 29) d_Mo_code_251 (by decide) ?_
        have r_62 := (ke_61 0 (by decide)).trans ((ke_60 0 (by decide)).trans ((ke_58 0 (by decide)).trans ((ke_41 0 (by decide)).trans ((ke_40 0 (by decide)).trans ((ke_37 0 (by decide)).trans ((ke_34 0 (by decide)).trans ((ke_31 0 (by decide)).trans ((ke_28 0 (by decide)).trans ((ke_27 0 (by decide)).trans ((ke_25 0 (by decide)).trans ((ke_23 0 (by decide)).trans ((ke_21 0 (by decide)).trans ((ke_18 0 (by decide)).trans ((ke_16 0 (by decide)).trans (r_14)))))))))))))))
        have r_63 := (ke_61 29 (by decide)).trans (vr_60)
        refine T_virtual (as := [.int (nI 29), .int (nI 0), .int (nI 29)]) (rest := []) (b := 373) d_Mo_code_253 rfl (jw_Mo_sub.jo (by decide)) lm_Mo_152 ji_Mo_sub js_Mo_sub hE_61.ob rfl rfl rfl (Nat.le_of_ble_eq_true rfl) (by decide) (by decide) (u_Mo_sub hE_61 (by decide) (by decide) (by decide) r_62 r_63) (fun r M_64 hq => ?_)
        obtain ⟨rfl, E_64, hE_64, vr_64, ke_64, kp_64⟩ := hq
        obtain ⟨x_64, hx_64⟩ : ∃ z : Int, z = (0 - x_60) := ⟨_, rfl⟩
        rw [← hx_64] at vr_64
        refine T_eq (pc' := 256) (L' := [(0, .ref 373), (1, .int (nI 12))]) (st' := []) (M' := M_64) rfl rfl rfl rfl ?_
        refine T_aload_n (v := .ref 373) d_Mo_code_256 rfl (Or.inr ⟨_, rfl⟩) ?_
        refine T_bipush (v := nI 29) d_Mo_code_257 (by decide) ?_
        refine T_virtual (as := [.int (nI 29)]) (rest := []) (b := 373) d_Mo_code_259 rfl (jw_Mo_pack.jo (by decide)) lm_Mo_149 ji_Mo_pack js_Mo_pack hE_64.ob rfl rfl rfl (Nat.le_of_ble_eq_true rfl) (by decide) (by decide) (u_Mo_pack hE_64 (by decide) vr_64) (fun r M_65 hq => ?_)
        obtain ⟨rfl, pk_65, E_65, hE_65, ke_65, kp_65⟩ := hq
        refine T_eq (pc' := 262) (L' := [(0, .ref 373), (1, .int (nI 12))]) (st' := []) (M' := M_65) rfl rfl rfl rfl ?_
        have a20 : ph x_6 = cAq (ph Y) (ph Z) := by rw [hx_6, ph_mul, hx_4, ph_sub, hx_1, ph_add]; rfl
        have a21 : ph x_9 = ph X * ph Y := by rw [hx_9, ph_mul]
        have aR : ph x_16 = cR (ph X) (ph Y) (ph Z) := by rw [hx_16, ph_rt, ph_1, hx_12, ph_mul, hx_10, ph_mul, a20, a21]; rfl
        have aS : ph x_25 = cS (ph X) (ph Y) (ph Z) (ph T) := by
          rw [hx_25, ph_mul, hx_23, ph_mul, hx_21, ph_mul, hx_18, ph_mul, aR, a20, a21]; unfold cS; grind -lia -linarith
        have t1 : ph x_27 = ph x_25 * ph T := by rw [hx_27, ph_mul, Lean.Grind.CommSemiring.mul_comm]
        have he : ph x_31 = ph Y * fI := by rw [hx_31, ph_mul, ph_cI, Lean.Grind.CommSemiring.mul_comm]
        have hf : ph x_34 = ph X * fI := by rw [hx_34, ph_mul, ph_cI, Lean.Grind.CommSemiring.mul_comm]
        have hg : ph x_37 = cAq (ph Y) (ph Z) * cR (ph X) (ph Y) (ph Z) * fE := by rw [hx_37, ph_mul, ph_cE, hx_18, ph_mul, aR, a20]; grind -lia -linarith
        have t2 : ph x_40 = ph x_31 * ph x_25 := by rw [hx_40, ph_mul]
        have hq : ph x_60 = (ph Z - ph x_34) * ph x_37 := by rw [hx_60, ph_mul, hx_58, ph_sub, Lean.Grind.CommSemiring.mul_comm]
        have hc : ph x_64 = cF (ph X) (ph Y) (ph Z) (ph T) := by
          refine cF_of (S := ph x_25) (e := ph x_31) (f := ph x_34) (g := ph x_37) (f' := ph x_34) (q := ph x_60) aS ?_ ?_ hq ?_
          · exact Or.inl ⟨(od_of t1).mpr hb_28, he, hf, hg⟩
          · exact Or.inr ⟨fun z => hb_41 ((od_of t2).mp z), rfl⟩
          · exact Or.inl ⟨od_ph.mpr hb_61, by rw [hx_64, ph_zs]⟩
        exact T_vret d_Mo_code_262 rfl (by decide) (by decide) ⟨rfl, ⟨_, pk_65, hc⟩, _, hE_65, (KE.tr (KE.tr (KE.tr (KE.tr (KE.tr (KE.tr (KE.tr (KE.tr (KE.tr (KE.tr (KE.tr (KE.tr (KE.tr (KE.tr (KE.tr (KE.tr (KE.tr (KE.tr (KE.tr (KE.tr (KE.tr (KE.tr (KE.tr (KE.rf : KE [20, 21, 22, 23, 24, 25, 26, 27, 28, 29, 50, 51, 52, 53, 54, 55, 56, 61, 62, 63] E E) (KE.mono ke_1 (by decide))) (KE.mono ke_4 (by decide))) (KE.mono ke_6 (by decide))) (KE.mono ke_9 (by decide))) (KE.mono ke_10 (by decide))) (KE.mono ke_12 (by decide))) (KE.mono ke_16 (by decide))) (KE.mono ke_18 (by decide))) (KE.mono ke_21 (by decide))) (KE.mono ke_23 (by decide))) (KE.mono ke_25 (by decide))) (KE.mono ke_27 (by decide))) (KE.mono ke_28 (by decide))) (KE.mono ke_31 (by decide))) (KE.mono ke_34 (by decide))) (KE.mono ke_37 (by decide))) (KE.mono ke_40 (by decide))) (KE.mono ke_41 (by decide))) (KE.mono ke_58 (by decide))) (KE.mono ke_60 (by decide))) (KE.mono ke_61 (by decide))) (KE.mono ke_64 (by decide))) (KE.mono ke_65 (by decide))), (Kp.tr (Kp.tr (Kp.tr (Kp.tr (Kp.tr (Kp.tr (Kp.tr (Kp.tr (Kp.tr (Kp.tr (Kp.tr (Kp.tr (Kp.tr (Kp.tr (Kp.tr (Kp.tr (Kp.tr (Kp.tr (Kp.tr (Kp.tr (Kp.tr (Kp.tr (Kp.tr (Kp.rf : Kp [390, 391, 392, 393, 394] M M) (Kp.mono kp_1 (by decide))) (Kp.mono kp_4 (by decide))) (Kp.mono kp_6 (by decide))) (Kp.mono kp_9 (by decide))) (Kp.mono kp_10 (by decide))) (Kp.mono kp_12 (by decide))) (Kp.mono kp_16 (by decide))) (Kp.mono kp_18 (by decide))) (Kp.mono kp_21 (by decide))) (Kp.mono kp_23 (by decide))) (Kp.mono kp_25 (by decide))) (Kp.mono kp_27 (by decide))) (Kp.mono kp_28 (by decide))) (Kp.mono kp_31 (by decide))) (Kp.mono kp_34 (by decide))) (Kp.mono kp_37 (by decide))) (Kp.mono kp_40 (by decide))) (Kp.mono kp_41 (by decide))) (Kp.mono kp_58 (by decide))) (Kp.mono kp_60 (by decide))) (Kp.mono kp_61 (by decide))) (Kp.mono kp_64 (by decide))) (Kp.mono kp_65 (by decide)))⟩
      · rw [if_neg hb_61]
        refine T_eq (pc' := 244) (L' := [(0, .ref 373), (1, .int (nI 12))]) (st' := [.int (nI 0)]) (M' := M_61) rfl rfl rfl rfl ?_
        refine N_if_eq_t (b := 0) d_Mo_code_244 (tgt := 256) rfl (by omega) (by omega) ?_
        refine T_aload_n (v := .ref 373) d_Mo_code_256 rfl (Or.inr ⟨_, rfl⟩) ?_
        refine T_bipush (v := nI 29) d_Mo_code_257 (by decide) ?_
        have r_66 := (ke_61 29 (by decide)).trans (vr_60)
        refine T_virtual (as := [.int (nI 29)]) (rest := []) (b := 373) d_Mo_code_259 rfl (jw_Mo_pack.jo (by decide)) lm_Mo_149 ji_Mo_pack js_Mo_pack hE_61.ob rfl rfl rfl (Nat.le_of_ble_eq_true rfl) (by decide) (by decide) (u_Mo_pack hE_61 (by decide) r_66) (fun r M_67 hq => ?_)
        obtain ⟨rfl, pk_67, E_67, hE_67, ke_67, kp_67⟩ := hq
        refine T_eq (pc' := 262) (L' := [(0, .ref 373), (1, .int (nI 12))]) (st' := []) (M' := M_67) rfl rfl rfl rfl ?_
        have a20 : ph x_6 = cAq (ph Y) (ph Z) := by rw [hx_6, ph_mul, hx_4, ph_sub, hx_1, ph_add]; rfl
        have a21 : ph x_9 = ph X * ph Y := by rw [hx_9, ph_mul]
        have aR : ph x_16 = cR (ph X) (ph Y) (ph Z) := by rw [hx_16, ph_rt, ph_1, hx_12, ph_mul, hx_10, ph_mul, a20, a21]; rfl
        have aS : ph x_25 = cS (ph X) (ph Y) (ph Z) (ph T) := by
          rw [hx_25, ph_mul, hx_23, ph_mul, hx_21, ph_mul, hx_18, ph_mul, aR, a20, a21]; unfold cS; grind -lia -linarith
        have t1 : ph x_27 = ph x_25 * ph T := by rw [hx_27, ph_mul, Lean.Grind.CommSemiring.mul_comm]
        have he : ph x_31 = ph Y * fI := by rw [hx_31, ph_mul, ph_cI, Lean.Grind.CommSemiring.mul_comm]
        have hf : ph x_34 = ph X * fI := by rw [hx_34, ph_mul, ph_cI, Lean.Grind.CommSemiring.mul_comm]
        have hg : ph x_37 = cAq (ph Y) (ph Z) * cR (ph X) (ph Y) (ph Z) * fE := by rw [hx_37, ph_mul, ph_cE, hx_18, ph_mul, aR, a20]; grind -lia -linarith
        have t2 : ph x_40 = ph x_31 * ph x_25 := by rw [hx_40, ph_mul]
        have hq : ph x_60 = (ph Z - ph x_34) * ph x_37 := by rw [hx_60, ph_mul, hx_58, ph_sub, Lean.Grind.CommSemiring.mul_comm]
        have hc : ph x_60 = cF (ph X) (ph Y) (ph Z) (ph T) := by
          refine cF_of (S := ph x_25) (e := ph x_31) (f := ph x_34) (g := ph x_37) (f' := ph x_34) (q := ph x_60) aS ?_ ?_ hq ?_
          · exact Or.inl ⟨(od_of t1).mpr hb_28, he, hf, hg⟩
          · exact Or.inr ⟨fun z => hb_41 ((od_of t2).mp z), rfl⟩
          · exact Or.inr ⟨fun z => hb_61 (od_ph.mp z), rfl⟩
        exact T_vret d_Mo_code_262 rfl (by decide) (by decide) ⟨rfl, ⟨_, pk_67, hc⟩, _, hE_67, (KE.tr (KE.tr (KE.tr (KE.tr (KE.tr (KE.tr (KE.tr (KE.tr (KE.tr (KE.tr (KE.tr (KE.tr (KE.tr (KE.tr (KE.tr (KE.tr (KE.tr (KE.tr (KE.tr (KE.tr (KE.tr (KE.tr (KE.rf : KE [20, 21, 22, 23, 24, 25, 26, 27, 28, 29, 50, 51, 52, 53, 54, 55, 56, 61, 62, 63] E E) (KE.mono ke_1 (by decide))) (KE.mono ke_4 (by decide))) (KE.mono ke_6 (by decide))) (KE.mono ke_9 (by decide))) (KE.mono ke_10 (by decide))) (KE.mono ke_12 (by decide))) (KE.mono ke_16 (by decide))) (KE.mono ke_18 (by decide))) (KE.mono ke_21 (by decide))) (KE.mono ke_23 (by decide))) (KE.mono ke_25 (by decide))) (KE.mono ke_27 (by decide))) (KE.mono ke_28 (by decide))) (KE.mono ke_31 (by decide))) (KE.mono ke_34 (by decide))) (KE.mono ke_37 (by decide))) (KE.mono ke_40 (by decide))) (KE.mono ke_41 (by decide))) (KE.mono ke_58 (by decide))) (KE.mono ke_60 (by decide))) (KE.mono ke_61 (by decide))) (KE.mono ke_67 (by decide))), (Kp.tr (Kp.tr (Kp.tr (Kp.tr (Kp.tr (Kp.tr (Kp.tr (Kp.tr (Kp.tr (Kp.tr (Kp.tr (Kp.tr (Kp.tr (Kp.tr (Kp.tr (Kp.tr (Kp.tr (Kp.tr (Kp.tr (Kp.tr (Kp.tr (Kp.tr (Kp.rf : Kp [390, 391, 392, 393, 394] M M) (Kp.mono kp_1 (by decide))) (Kp.mono kp_4 (by decide))) (Kp.mono kp_6 (by decide))) (Kp.mono kp_9 (by decide))) (Kp.mono kp_10 (by decide))) (Kp.mono kp_12 (by decide))) (Kp.mono kp_16 (by decide))) (Kp.mono kp_18 (by decide))) (Kp.mono kp_21 (by decide))) (Kp.mono kp_23 (by decide))) (Kp.mono kp_25 (by decide))) (Kp.mono kp_27 (by decide))) (Kp.mono kp_28 (by decide))) (Kp.mono kp_31 (by decide))) (Kp.mono kp_34 (by decide))) (Kp.mono kp_37 (by decide))) (Kp.mono kp_40 (by decide))) (Kp.mono kp_41 (by decide))) (Kp.mono kp_58 (by decide))) (Kp.mono kp_60 (by decide))) (Kp.mono kp_61 (by decide))) (Kp.mono kp_67 (by decide)))⟩
  · rw [if_neg hb_28]
    refine T_eq (pc' := 132) (L' := [(0, .ref 373), (1, .int (nI 12))]) (st' := [.int (nI 0)]) (M' := M_28) rfl rfl rfl rfl ?_
    refine N_if_eq_t (b := 0) d_Mo_code_132 (tgt := 165) rfl (by omega) (by omega) ?_
    refine T_aload_n (v := .ref 373) d_Mo_code_165 rfl (Or.inr ⟨_, rfl⟩) ?_
    refine T_bipush (v := nI 27) d_Mo_code_166 (by decide) ?_
    refine T_iload_n d_Mo_code_168 rfl ?_
    have r_68 := (ke_28 12 (by decide)).trans ((ke_27 12 (by decide)).trans ((ke_25 12 (by decide)).trans ((ke_23 12 (by decide)).trans ((ke_21 12 (by decide)).trans ((ke_18 12 (by decide)).trans ((ke_16 12 (by decide)).trans ((ke_12 12 (by decide)).trans ((ke_10 12 (by decide)).trans ((ke_9 12 (by decide)).trans (r_7))))))))))
    refine T_virtual (as := [.int (nI 27), .int (nI 12)]) (rest := []) (b := 373) d_Mo_code_169 rfl (jw_Mo_set.jo (by decide)) lm_Mo_160 ji_Mo_set js_Mo_set hE_28.ob rfl rfl rfl (Nat.le_of_ble_eq_true rfl) (by decide) (by decide) (u_Mo_set hE_28 (by decide) (by decide) r_68) (fun r M_69 hq => ?_)
    obtain ⟨rfl, E_69, hE_69, vr_69, ke_69, kp_69⟩ := hq
    obtain ⟨x_69, hx_69⟩ : ∃ z : Int, z = X := ⟨_, rfl⟩
    rw [← hx_69] at vr_69
    refine T_eq (pc' := 172) (L' := [(0, .ref 373), (1, .int (nI 12))]) (st' := []) (M' := M_69) rfl rfl rfl rfl ?_
    refine T_aload_n (v := .ref 373) d_Mo_code_172 rfl (Or.inr ⟨_, rfl⟩) ?_
    refine T_bipush (v := nI 28) d_Mo_code_173 (by decide) ?_
    refine T_iload_n d_Mo_code_175 rfl ?_
    refine T_iconst (v := nI 1) d_Mo_code_176 (by decide) ?_
    refine N_iadd (a := 1) (b := 12) (c := 13) d_Mo_code_177 rfl ?_
    have r_70 := (ke_69 13 (by decide)).trans ((ke_28 13 (by decide)).trans ((ke_27 13 (by decide)).trans ((ke_25 13 (by decide)).trans ((ke_23 13 (by decide)).trans ((ke_21 13 (by decide)).trans ((ke_18 13 (by decide)).trans ((ke_16 13 (by decide)).trans ((ke_12 13 (by decide)).trans ((ke_10 13 (by decide)).trans ((ke_9 13 (by decide)).trans (r_8)))))))))))
    refine T_virtual (as := [.int (nI 28), .int (nI 13)]) (rest := []) (b := 373) d_Mo_code_178 rfl (jw_Mo_set.jo (by decide)) lm_Mo_160 ji_Mo_set js_Mo_set hE_69.ob rfl rfl rfl (Nat.le_of_ble_eq_true rfl) (by decide) (by decide) (u_Mo_set hE_69 (by decide) (by decide) r_70) (fun r M_71 hq => ?_)
    obtain ⟨rfl, E_71, hE_71, vr_71, ke_71, kp_71⟩ := hq
    obtain ⟨x_71, hx_71⟩ : ∃ z : Int, z = Y := ⟨_, rfl⟩
    rw [← hx_71] at vr_71
    refine T_eq (pc' := 181) (L' := [(0, .ref 373), (1, .int (nI 12))]) (st' := []) (M' := M_71) rfl rfl rfl rfl ?_
    refine T_aload_n (v := .ref 373) d_Mo_code_181 rfl (Or.inr ⟨_, rfl⟩) ?_
    refine T_bipush (v := nI 29) d_Mo_code_182 (by decide) ?_
    refine T_bipush (v := nI 24) d_Mo_code_184 (by decide) ?_
    have r_72 := (ke_71 24 (by decide)).trans ((ke_69 24 (by decide)).trans ((ke_28 24 (by decide)).trans ((ke_27 24 (by decide)).trans ((ke_25 24 (by decide)).trans ((ke_23 24 (by decide)).trans (vr_21))))))
    refine T_virtual (as := [.int (nI 29), .int (nI 24)]) (rest := []) (b := 373) d_Mo_code_186 rfl (jw_Mo_set.jo (by decide)) lm_Mo_160 ji_Mo_set js_Mo_set hE_71.ob rfl rfl rfl (Nat.le_of_ble_eq_true rfl) (by decide) (by decide) (u_Mo_set hE_71 (by decide) (by decide) r_72) (fun r M_73 hq => ?_)
    obtain ⟨rfl, E_73, hE_73, vr_73, ke_73, kp_73⟩ := hq
    obtain ⟨x_73, hx_73⟩ : ∃ z : Int, z = x_21 := ⟨_, rfl⟩
    rw [← hx_73] at vr_73
    refine T_eq (pc' := 189) (L' := [(0, .ref 373), (1, .int (nI 12))]) (st' := []) (M' := M_73) rfl rfl rfl rfl ?_
    refine T_aload_n (v := .ref 373) d_Mo_code_189 rfl (Or.inr ⟨_, rfl⟩) ?_
    refine T_bipush (v := nI 26) d_Mo_code_190 (by decide) ?_
    refine T_bipush (v := nI 27) d_Mo_code_192 (by decide) ?_
    refine T_bipush (v := nI 25) d_Mo_code_194 (by decide) ?_
    have r_74 := (ke_73 27 (by decide)).trans ((ke_71 27 (by decide)).trans (vr_69))
    have r_75 := (ke_73 25 (by decide)).trans ((ke_71 25 (by decide)).trans ((ke_69 25 (by decide)).trans ((ke_28 25 (by decide)).trans ((ke_27 25 (by decide)).trans (vr_25)))))
    refine T_virtual (as := [.int (nI 26), .int (nI 27), .int (nI 25)]) (rest := []) (b := 373) d_Mo_code_196 rfl (jw_Mo_mul.jo (by decide)) lm_Mo_163 ji_Mo_mul js_Mo_mul hE_73.ob rfl rfl rfl (Nat.le_of_ble_eq_true rfl) (by decide) (by decide) (u_Mo_mul hE_73 (by decide) (by decide) (by decide) r_74 r_75) (fun r M_76 hq => ?_)
    obtain ⟨rfl, E_76, hE_76, vr_76, ke_76, kp_76⟩ := hq
    obtain ⟨x_76, hx_76⟩ : ∃ z : Int, z = (x_69 * x_25) := ⟨_, rfl⟩
    rw [← hx_76] at vr_76
    refine T_eq (pc' := 199) (L' := [(0, .ref 373), (1, .int (nI 12))]) (st' := []) (M' := M_76) rfl rfl rfl rfl ?_
    refine T_aload_n (v := .ref 373) d_Mo_code_199 rfl (Or.inr ⟨_, rfl⟩) ?_
    refine T_bipush (v := nI 26) d_Mo_code_200 (by decide) ?_
    refine T_virtual (as := [.int (nI 26)]) (rest := []) (b := 373) d_Mo_code_202 rfl (jw_Mo_odd.jo (by decide)) lm_Mo_174 ji_Mo_odd js_Mo_odd hE_76.ob rfl rfl rfl (Nat.le_of_ble_eq_true rfl) (by decide) (by decide) (u_Mo_odd hE_76 (by decide) vr_76) (fun r M_77 hq => ?_)
    obtain ⟨rfl, pk_77, E_77, hE_77, ke_77, kp_77⟩ := hq
    by_cases hb_77 : (x_76 % pP) % 2 = 1
    · rw [if_pos hb_77]
      refine T_eq (pc' := 205) (L' := [(0, .ref 373), (1, .int (nI 12))]) (st' := [.int (nI 1)]) (M' := M_77) rfl rfl rfl rfl ?_
      refine N_if_eq_f (b := 1) d_Mo_code_205 (tgt := 217) rfl (by omega) (by omega) ?_
      refine T_aload_n (v := .ref 373) d_Mo_code_208 rfl (Or.inr ⟨_, rfl⟩) ?_
      refine T_bipush (v := nI 28) d_Mo_code_209 (by decide) ?_
      refine T_iconst (v := nI 0) d_Mo_code_211 (by decide) ?_
      refine T_bipush (v := nI 28) d_Mo_code_212 (by decide) ?_
      have r_78 := (ke_77 0 (by decide)).trans ((ke_76 0 (by decide)).trans ((ke_73 0 (by decide)).trans ((ke_71 0 (by decide)).trans ((ke_69 0 (by decide)).trans ((ke_28 0 (by decide)).trans ((ke_27 0 (by decide)).trans ((ke_25 0 (by decide)).trans ((ke_23 0 (by decide)).trans ((ke_21 0 (by decide)).trans ((ke_18 0 (by decide)).trans ((ke_16 0 (by decide)).trans (r_14))))))))))))
      have r_79 := (ke_77 28 (by decide)).trans ((ke_76 28 (by decide)).trans ((ke_73 28 (by decide)).trans (vr_71)))
      refine T_virtual (as := [.int (nI 28), .int (nI 0), .int (nI 28)]) (rest := []) (b := 373) d_Mo_code_214 rfl (jw_Mo_sub.jo (by decide)) lm_Mo_152 ji_Mo_sub js_Mo_sub hE_77.ob rfl rfl rfl (Nat.le_of_ble_eq_true rfl) (by decide) (by decide) (u_Mo_sub hE_77 (by decide) (by decide) (by decide) r_78 r_79) (fun r M_80 hq => ?_)
      obtain ⟨rfl, E_80, hE_80, vr_80, ke_80, kp_80⟩ := hq
      obtain ⟨x_80, hx_80⟩ : ∃ z : Int, z = (0 - x_71) := ⟨_, rfl⟩
      rw [← hx_80] at vr_80
      refine T_eq (pc' := 217) (L' := [(0, .ref 373), (1, .int (nI 12))]) (st' := []) (M' := M_80) rfl rfl rfl rfl ?_
      refine T_aload_n (v := .ref 373) d_Mo_code_217 rfl (Or.inr ⟨_, rfl⟩) ?_
      refine T_bipush (v := nI 28) d_Mo_code_218 (by decide) ?_
      refine T_iload_n d_Mo_code_220 rfl ?_
      refine T_iconst (v := nI 2) d_Mo_code_221 (by decide) ?_
      refine N_iadd (a := 2) (b := 12) (c := 14) d_Mo_code_222 rfl ?_
      refine T_bipush (v := nI 28) d_Mo_code_223 (by decide) ?_
      have r_81 := (ke_80 14 (by decide)).trans ((ke_77 14 (by decide)).trans ((ke_76 14 (by decide)).trans ((ke_73 14 (by decide)).trans ((ke_71 14 (by decide)).trans ((ke_69 14 (by decide)).trans ((ke_28 14 (by decide)).trans ((ke_27 14 (by decide)).trans ((ke_25 14 (by decide)).trans ((ke_23 14 (by decide)).trans ((ke_21 14 (by decide)).trans ((ke_18 14 (by decide)).trans ((ke_16 14 (by decide)).trans ((ke_12 14 (by decide)).trans ((ke_10 14 (by decide)).trans ((ke_9 14 (by decide)).trans ((ke_6 14 (by decide)).trans ((ke_4 14 (by decide)).trans (r_2))))))))))))))))))
      refine T_virtual (as := [.int (nI 28), .int (nI 14), .int (nI 28)]) (rest := []) (b := 373) d_Mo_code_225 rfl (jw_Mo_sub.jo (by decide)) lm_Mo_152 ji_Mo_sub js_Mo_sub hE_80.ob rfl rfl rfl (Nat.le_of_ble_eq_true rfl) (by decide) (by decide) (u_Mo_sub hE_80 (by decide) (by decide) (by decide) r_81 vr_80) (fun r M_82 hq => ?_)
      obtain ⟨rfl, E_82, hE_82, vr_82, ke_82, kp_82⟩ := hq
      obtain ⟨x_82, hx_82⟩ : ∃ z : Int, z = (Z - x_80) := ⟨_, rfl⟩
      rw [← hx_82] at vr_82
      refine T_eq (pc' := 228) (L' := [(0, .ref 373), (1, .int (nI 12))]) (st' := []) (M' := M_82) rfl rfl rfl rfl ?_
      refine T_aload_n (v := .ref 373) d_Mo_code_228 rfl (Or.inr ⟨_, rfl⟩) ?_
      refine T_bipush (v := nI 29) d_Mo_code_229 (by decide) ?_
      refine T_bipush (v := nI 29) d_Mo_code_231 (by decide) ?_
      refine T_bipush (v := nI 28) d_Mo_code_233 (by decide) ?_
      have r_83 := (ke_82 29 (by decide)).trans ((ke_80 29 (by decide)).trans ((ke_77 29 (by decide)).trans ((ke_76 29 (by decide)).trans (vr_73))))
      refine T_virtual (as := [.int (nI 29), .int (nI 29), .int (nI 28)]) (rest := []) (b := 373) d_Mo_code_235 rfl (jw_Mo_mul.jo (by decide)) lm_Mo_163 ji_Mo_mul js_Mo_mul hE_82.ob rfl rfl rfl (Nat.le_of_ble_eq_true rfl) (by decide) (by decide) (u_Mo_mul hE_82 (by decide) (by decide) (by decide) r_83 vr_82) (fun r M_84 hq => ?_)
      obtain ⟨rfl, E_84, hE_84, vr_84, ke_84, kp_84⟩ := hq
      obtain ⟨x_84, hx_84⟩ : ∃ z : Int, z = (x_73 * x_82) := ⟨_, rfl⟩
      rw [← hx_84] at vr_84
      refine T_eq (pc' := 238) (L' := [(0, .ref 373), (1, .int (nI 12))]) (st' := []) (M' := M_84) rfl rfl rfl rfl ?_
      refine T_aload_n (v := .ref 373) d_Mo_code_238 rfl (Or.inr ⟨_, rfl⟩) ?_
      refine T_bipush (v := nI 29) d_Mo_code_239 (by decide) ?_
      refine T_virtual (as := [.int (nI 29)]) (rest := []) (b := 373) d_Mo_code_241 rfl (jw_Mo_odd.jo (by decide)) lm_Mo_174 ji_Mo_odd js_Mo_odd hE_84.ob rfl rfl rfl (Nat.le_of_ble_eq_true rfl) (by decide) (by decide) (u_Mo_odd hE_84 (by decide) vr_84) (fun r M_85 hq => ?_)
      obtain ⟨rfl, pk_85, E_85, hE_85, ke_85, kp_85⟩ := hq
      by_cases hb_85 : (x_84 % pP) % 2 = 1
      · rw [if_pos hb_85]
        refine T_eq (pc' := 244) (L' := [(0, .ref 373), (1, .int (nI 12))]) (st' := [.int (nI 1)]) (M' := M_85) rfl rfl rfl rfl ?_
        refine N_if_eq_f (b := 1) d_Mo_code_244 (tgt := 256) rfl (by omega) (by omega) ?_
        refine T_aload_n (v := .ref 373) d_Mo_code_247 rfl (Or.inr ⟨_, rfl⟩) ?_
        refine T_bipush (v := nI 29) d_Mo_code_248 (by decide) ?_
        refine T_iconst (v := nI 0) d_Mo_code_250 (by decide) ?_
        refine T_bipush (v := nI 29) d_Mo_code_251 (by decide) ?_
        have r_86 := (ke_85 0 (by decide)).trans ((ke_84 0 (by decide)).trans ((ke_82 0 (by decide)).trans ((ke_80 0 (by decide)).trans (r_78))))
        have r_87 := (ke_85 29 (by decide)).trans (vr_84)
        refine T_virtual (as := [.int (nI 29), .int (nI 0), .int (nI 29)]) (rest := []) (b := 373) d_Mo_code_253 rfl (jw_Mo_sub.jo (by decide)) lm_Mo_152 ji_Mo_sub js_Mo_sub hE_85.ob rfl rfl rfl (Nat.le_of_ble_eq_true rfl) (by decide) (by decide) (u_Mo_sub hE_85 (by decide) (by decide) (by decide) r_86 r_87) (fun r M_88 hq => ?_)
        obtain ⟨rfl, E_88, hE_88, vr_88, ke_88, kp_88⟩ := hq
        obtain ⟨x_88, hx_88⟩ : ∃ z : Int, z = (0 - x_84) := ⟨_, rfl⟩
        rw [← hx_88] at vr_88
        refine T_eq (pc' := 256) (L' := [(0, .ref 373), (1, .int (nI 12))]) (st' := []) (M' := M_88) rfl rfl rfl rfl ?_
        refine T_aload_n (v := .ref 373) d_Mo_code_256 rfl (Or.inr ⟨_, rfl⟩) ?_
        refine T_bipush (v := nI 29) d_Mo_code_257 (by decide) ?_
        refine T_virtual (as := [.int (nI 29)]) (rest := []) (b := 373) d_Mo_code_259 rfl (jw_Mo_pack.jo (by decide)) lm_Mo_149 ji_Mo_pack js_Mo_pack hE_88.ob rfl rfl rfl (Nat.le_of_ble_eq_true rfl) (by decide) (by decide) (u_Mo_pack hE_88 (by decide) vr_88) (fun r M_89 hq => ?_)
        obtain ⟨rfl, pk_89, E_89, hE_89, ke_89, kp_89⟩ := hq
        refine T_eq (pc' := 262) (L' := [(0, .ref 373), (1, .int (nI 12))]) (st' := []) (M' := M_89) rfl rfl rfl rfl ?_
        have a20 : ph x_6 = cAq (ph Y) (ph Z) := by rw [hx_6, ph_mul, hx_4, ph_sub, hx_1, ph_add]; rfl
        have a21 : ph x_9 = ph X * ph Y := by rw [hx_9, ph_mul]
        have aR : ph x_16 = cR (ph X) (ph Y) (ph Z) := by rw [hx_16, ph_rt, ph_1, hx_12, ph_mul, hx_10, ph_mul, a20, a21]; rfl
        have aS : ph x_25 = cS (ph X) (ph Y) (ph Z) (ph T) := by
          rw [hx_25, ph_mul, hx_23, ph_mul, hx_21, ph_mul, hx_18, ph_mul, aR, a20, a21]; unfold cS; grind -lia -linarith
        have t1 : ph x_27 = ph x_25 * ph T := by rw [hx_27, ph_mul, Lean.Grind.CommSemiring.mul_comm]
        have he : ph x_69 = ph X := by rw [hx_69]
        have hf : ph x_71 = ph Y := by rw [hx_71]
        have hg : ph x_73 = ph X * ph Y * cR (ph X) (ph Y) (ph Z) := by rw [hx_73, hx_21, ph_mul, aR, a21]; grind -lia -linarith
        have t2 : ph x_76 = ph x_69 * ph x_25 := by rw [hx_76, ph_mul]
        have hq : ph x_84 = (ph Z - ph x_80) * ph x_73 := by rw [hx_84, ph_mul, hx_82, ph_sub, Lean.Grind.CommSemiring.mul_comm]
        have hc : ph x_88 = cF (ph X) (ph Y) (ph Z) (ph T) := by
          refine cF_of (S := ph x_25) (e := ph x_69) (f := ph x_71) (g := ph x_73) (f' := ph x_80) (q := ph x_84) aS ?_ ?_ hq ?_
          · exact Or.inr ⟨fun z => hb_28 ((od_of t1).mp z), he, hf, hg⟩
          · exact Or.inl ⟨(od_of t2).mpr hb_77, by rw [hx_80, ph_zs]⟩
          · exact Or.inl ⟨od_ph.mpr hb_85, by rw [hx_88, ph_zs]⟩
        exact T_vret d_Mo_code_262 rfl (by decide) (by decide) ⟨rfl, ⟨_, pk_89, hc⟩, _, hE_89, (KE.tr (KE.tr (KE.tr (KE.tr (KE.tr (KE.tr (KE.tr (KE.tr (KE.tr (KE.tr (KE.tr (KE.tr (KE.tr (KE.tr (KE.tr (KE.tr (KE.tr (KE.tr (KE.tr (KE.tr (KE.tr (KE.tr (KE.tr (KE.tr (KE.rf : KE [20, 21, 22, 23, 24, 25, 26, 27, 28, 29, 50, 51, 52, 53, 54, 55, 56, 61, 62, 63] E E) (KE.mono ke_1 (by decide))) (KE.mono ke_4 (by decide))) (KE.mono ke_6 (by decide))) (KE.mono ke_9 (by decide))) (KE.mono ke_10 (by decide))) (KE.mono ke_12 (by decide))) (KE.mono ke_16 (by decide))) (KE.mono ke_18 (by decide))) (KE.mono ke_21 (by decide))) (KE.mono ke_23 (by decide))) (KE.mono ke_25 (by decide))) (KE.mono ke_27 (by decide))) (KE.mono ke_28 (by decide))) (KE.mono ke_69 (by decide))) (KE.mono ke_71 (by decide))) (KE.mono ke_73 (by decide))) (KE.mono ke_76 (by decide))) (KE.mono ke_77 (by decide))) (KE.mono ke_80 (by decide))) (KE.mono ke_82 (by decide))) (KE.mono ke_84 (by decide))) (KE.mono ke_85 (by decide))) (KE.mono ke_88 (by decide))) (KE.mono ke_89 (by decide))), (Kp.tr (Kp.tr (Kp.tr (Kp.tr (Kp.tr (Kp.tr (Kp.tr (Kp.tr (Kp.tr (Kp.tr (Kp.tr (Kp.tr (Kp.tr (Kp.tr (Kp.tr (Kp.tr (Kp.tr (Kp.tr (Kp.tr (Kp.tr (Kp.tr (Kp.tr (Kp.tr (Kp.tr (Kp.rf : Kp [390, 391, 392, 393, 394] M M) (Kp.mono kp_1 (by decide))) (Kp.mono kp_4 (by decide))) (Kp.mono kp_6 (by decide))) (Kp.mono kp_9 (by decide))) (Kp.mono kp_10 (by decide))) (Kp.mono kp_12 (by decide))) (Kp.mono kp_16 (by decide))) (Kp.mono kp_18 (by decide))) (Kp.mono kp_21 (by decide))) (Kp.mono kp_23 (by decide))) (Kp.mono kp_25 (by decide))) (Kp.mono kp_27 (by decide))) (Kp.mono kp_28 (by decide))) (Kp.mono kp_69 (by decide))) (Kp.mono kp_71 (by decide))) (Kp.mono kp_73 (by decide))) (Kp.mono kp_76 (by decide))) (Kp.mono kp_77 (by decide))) (Kp.mono kp_80 (by decide))) (Kp.mono kp_82 (by decide))) (Kp.mono kp_84 (by decide))) (Kp.mono kp_85 (by decide))) (Kp.mono kp_88 (by decide))) (Kp.mono kp_89 (by decide)))⟩
      · rw [if_neg hb_85]
        refine T_eq (pc' := 244) (L' := [(0, .ref 373), (1, .int (nI 12))]) (st' := [.int (nI 0)]) (M' := M_85) rfl rfl rfl rfl ?_
        refine N_if_eq_t (b := 0) d_Mo_code_244 (tgt := 256) rfl (by omega) (by omega) ?_
        refine T_aload_n (v := .ref 373) d_Mo_code_256 rfl (Or.inr ⟨_, rfl⟩) ?_
        refine T_bipush (v := nI 29) d_Mo_code_257 (by decide) ?_
        have r_90 := (ke_85 29 (by decide)).trans (vr_84)
        refine T_virtual (as := [.int (nI 29)]) (rest := []) (b := 373) d_Mo_code_259 rfl (jw_Mo_pack.jo (by decide)) lm_Mo_149 ji_Mo_pack js_Mo_pack hE_85.ob rfl rfl rfl (Nat.le_of_ble_eq_true rfl) (by decide) (by decide) (u_Mo_pack hE_85 (by decide) r_90) (fun r M_91 hq => ?_)
        obtain ⟨rfl, pk_91, E_91, hE_91, ke_91, kp_91⟩ := hq
        refine T_eq (pc' := 262) (L' := [(0, .ref 373), (1, .int (nI 12))]) (st' := []) (M' := M_91) rfl rfl rfl rfl ?_
        have a20 : ph x_6 = cAq (ph Y) (ph Z) := by rw [hx_6, ph_mul, hx_4, ph_sub, hx_1, ph_add]; rfl
        have a21 : ph x_9 = ph X * ph Y := by rw [hx_9, ph_mul]
        have aR : ph x_16 = cR (ph X) (ph Y) (ph Z) := by rw [hx_16, ph_rt, ph_1, hx_12, ph_mul, hx_10, ph_mul, a20, a21]; rfl
        have aS : ph x_25 = cS (ph X) (ph Y) (ph Z) (ph T) := by
          rw [hx_25, ph_mul, hx_23, ph_mul, hx_21, ph_mul, hx_18, ph_mul, aR, a20, a21]; unfold cS; grind -lia -linarith
        have t1 : ph x_27 = ph x_25 * ph T := by rw [hx_27, ph_mul, Lean.Grind.CommSemiring.mul_comm]
        have he : ph x_69 = ph X := by rw [hx_69]
        have hf : ph x_71 = ph Y := by rw [hx_71]
        have hg : ph x_73 = ph X * ph Y * cR (ph X) (ph Y) (ph Z) := by rw [hx_73, hx_21, ph_mul, aR, a21]; grind -lia -linarith
        have t2 : ph x_76 = ph x_69 * ph x_25 := by rw [hx_76, ph_mul]
        have hq : ph x_84 = (ph Z - ph x_80) * ph x_73 := by rw [hx_84, ph_mul, hx_82, ph_sub, Lean.Grind.CommSemiring.mul_comm]
        have hc : ph x_84 = cF (ph X) (ph Y) (ph Z) (ph T) := by
          refine cF_of (S := ph x_25) (e := ph x_69) (f := ph x_71) (g := ph x_73) (f' := ph x_80) (q := ph x_84) aS ?_ ?_ hq ?_
          · exact Or.inr ⟨fun z => hb_28 ((od_of t1).mp z), he, hf, hg⟩
          · exact Or.inl ⟨(od_of t2).mpr hb_77, by rw [hx_80, ph_zs]⟩
          · exact Or.inr ⟨fun z => hb_85 (od_ph.mp z), rfl⟩
        exact T_vret d_Mo_code_262 rfl (by decide) (by decide) ⟨rfl, ⟨_, pk_91, hc⟩, _, hE_91, (KE.tr (KE.tr (KE.tr (KE.tr (KE.tr (KE.tr (KE.tr (KE.tr (KE.tr (KE.tr (KE.tr (KE.tr (KE.tr (KE.tr (KE.tr (KE.tr (KE.tr (KE.tr (KE.tr (KE.tr (KE.tr (KE.tr (KE.tr (KE.rf : KE [20, 21, 22, 23, 24, 25, 26, 27, 28, 29, 50, 51, 52, 53, 54, 55, 56, 61, 62, 63] E E) (KE.mono ke_1 (by decide))) (KE.mono ke_4 (by decide))) (KE.mono ke_6 (by decide))) (KE.mono ke_9 (by decide))) (KE.mono ke_10 (by decide))) (KE.mono ke_12 (by decide))) (KE.mono ke_16 (by decide))) (KE.mono ke_18 (by decide))) (KE.mono ke_21 (by decide))) (KE.mono ke_23 (by decide))) (KE.mono ke_25 (by decide))) (KE.mono ke_27 (by decide))) (KE.mono ke_28 (by decide))) (KE.mono ke_69 (by decide))) (KE.mono ke_71 (by decide))) (KE.mono ke_73 (by decide))) (KE.mono ke_76 (by decide))) (KE.mono ke_77 (by decide))) (KE.mono ke_80 (by decide))) (KE.mono ke_82 (by decide))) (KE.mono ke_84 (by decide))) (KE.mono ke_85 (by decide))) (KE.mono ke_91 (by decide))), (Kp.tr (Kp.tr (Kp.tr (Kp.tr (Kp.tr (Kp.tr (Kp.tr (Kp.tr (Kp.tr (Kp.tr (Kp.tr (Kp.tr (Kp.tr (Kp.tr (Kp.tr (Kp.tr (Kp.tr (Kp.tr (Kp.tr (Kp.tr (Kp.tr (Kp.tr (Kp.tr (Kp.rf : Kp [390, 391, 392, 393, 394] M M) (Kp.mono kp_1 (by decide))) (Kp.mono kp_4 (by decide))) (Kp.mono kp_6 (by decide))) (Kp.mono kp_9 (by decide))) (Kp.mono kp_10 (by decide))) (Kp.mono kp_12 (by decide))) (Kp.mono kp_16 (by decide))) (Kp.mono kp_18 (by decide))) (Kp.mono kp_21 (by decide))) (Kp.mono kp_23 (by decide))) (Kp.mono kp_25 (by decide))) (Kp.mono kp_27 (by decide))) (Kp.mono kp_28 (by decide))) (Kp.mono kp_69 (by decide))) (Kp.mono kp_71 (by decide))) (Kp.mono kp_73 (by decide))) (Kp.mono kp_76 (by decide))) (Kp.mono kp_77 (by decide))) (Kp.mono kp_80 (by decide))) (Kp.mono kp_82 (by decide))) (Kp.mono kp_84 (by decide))) (Kp.mono kp_85 (by decide))) (Kp.mono kp_91 (by decide)))⟩
    · rw [if_neg hb_77]
      refine T_eq (pc' := 205) (L' := [(0, .ref 373), (1, .int (nI 12))]) (st' := [.int (nI 0)]) (M' := M_77) rfl rfl rfl rfl ?_
      refine N_if_eq_t (b := 0) d_Mo_code_205 (tgt := 217) rfl (by omega) (by omega) ?_
      refine T_aload_n (v := .ref 373) d_Mo_code_217 rfl (Or.inr ⟨_, rfl⟩) ?_
      refine T_bipush (v := nI 28) d_Mo_code_218 (by decide) ?_
      refine T_iload_n d_Mo_code_220 rfl ?_
      refine T_iconst (v := nI 2) d_Mo_code_221 (by decide) ?_
      refine N_iadd (a := 2) (b := 12) (c := 14) d_Mo_code_222 rfl ?_
      refine T_bipush (v := nI 28) d_Mo_code_223 (by decide) ?_
      have r_92 := (ke_77 14 (by decide)).trans ((ke_76 14 (by decide)).trans ((ke_73 14 (by decide)).trans ((ke_71 14 (by decide)).trans ((ke_69 14 (by decide)).trans ((ke_28 14 (by decide)).trans ((ke_27 14 (by decide)).trans ((ke_25 14 (by decide)).trans ((ke_23 14 (by decide)).trans ((ke_21 14 (by decide)).trans ((ke_18 14 (by decide)).trans ((ke_16 14 (by decide)).trans ((ke_12 14 (by decide)).trans ((ke_10 14 (by decide)).trans ((ke_9 14 (by decide)).trans ((ke_6 14 (by decide)).trans ((ke_4 14 (by decide)).trans (r_2)))))))))))))))))
      have r_93 := (ke_77 28 (by decide)).trans ((ke_76 28 (by decide)).trans ((ke_73 28 (by decide)).trans (vr_71)))
      refine T_virtual (as := [.int (nI 28), .int (nI 14), .int (nI 28)]) (rest := []) (b := 373) d_Mo_code_225 rfl (jw_Mo_sub.jo (by decide)) lm_Mo_152 ji_Mo_sub js_Mo_sub hE_77.ob rfl rfl rfl (Nat.le_of_ble_eq_true rfl) (by decide) (by decide) (u_Mo_sub hE_77 (by decide) (by decide) (by decide) r_92 r_93) (fun r M_94 hq => ?_)
      obtain ⟨rfl, E_94, hE_94, vr_94, ke_94, kp_94⟩ := hq
      obtain ⟨x_94, hx_94⟩ : ∃ z : Int, z = (Z - x_71) := ⟨_, rfl⟩
      rw [← hx_94] at vr_94
      refine T_eq (pc' := 228) (L' := [(0, .ref 373), (1, .int (nI 12))]) (st' := []) (M' := M_94) rfl rfl rfl rfl ?_
      refine T_aload_n (v := .ref 373) d_Mo_code_228 rfl (Or.inr ⟨_, rfl⟩) ?_
      refine T_bipush (v := nI 29) d_Mo_code_229 (by decide) ?_
      refine T_bipush (v := nI 29) d_Mo_code_231 (by decide) ?_
      refine T_bipush (v := nI 28) d_Mo_code_233 (by decide) ?_
      have r_95 := (ke_94 29 (by decide)).trans ((ke_77 29 (by decide)).trans ((ke_76 29 (by decide)).trans (vr_73)))
      refine T_virtual (as := [.int (nI 29), .int (nI 29), .int (nI 28)]) (rest := []) (b := 373) d_Mo_code_235 rfl (jw_Mo_mul.jo (by decide)) lm_Mo_163 ji_Mo_mul js_Mo_mul hE_94.ob rfl rfl rfl (Nat.le_of_ble_eq_true rfl) (by decide) (by decide) (u_Mo_mul hE_94 (by decide) (by decide) (by decide) r_95 vr_94) (fun r M_96 hq => ?_)
      obtain ⟨rfl, E_96, hE_96, vr_96, ke_96, kp_96⟩ := hq
      obtain ⟨x_96, hx_96⟩ : ∃ z : Int, z = (x_73 * x_94) := ⟨_, rfl⟩
      rw [← hx_96] at vr_96
      refine T_eq (pc' := 238) (L' := [(0, .ref 373), (1, .int (nI 12))]) (st' := []) (M' := M_96) rfl rfl rfl rfl ?_
      refine T_aload_n (v := .ref 373) d_Mo_code_238 rfl (Or.inr ⟨_, rfl⟩) ?_
      refine T_bipush (v := nI 29) d_Mo_code_239 (by decide) ?_
      refine T_virtual (as := [.int (nI 29)]) (rest := []) (b := 373) d_Mo_code_241 rfl (jw_Mo_odd.jo (by decide)) lm_Mo_174 ji_Mo_odd js_Mo_odd hE_96.ob rfl rfl rfl (Nat.le_of_ble_eq_true rfl) (by decide) (by decide) (u_Mo_odd hE_96 (by decide) vr_96) (fun r M_97 hq => ?_)
      obtain ⟨rfl, pk_97, E_97, hE_97, ke_97, kp_97⟩ := hq
      by_cases hb_97 : (x_96 % pP) % 2 = 1
      · rw [if_pos hb_97]
        refine T_eq (pc' := 244) (L' := [(0, .ref 373), (1, .int (nI 12))]) (st' := [.int (nI 1)]) (M' := M_97) rfl rfl rfl rfl ?_
        refine N_if_eq_f (b := 1) d_Mo_code_244 (tgt := 256) rfl (by omega) (by omega) ?_
        refine T_aload_n (v := .ref 373) d_Mo_code_247 rfl (Or.inr ⟨_, rfl⟩) ?_
        refine T_bipush (v := nI 29) d_Mo_code_248 (by decide) ?_
        refine T_iconst (v := nI 0) d_Mo_code_250 (by decide) ?_
        refine T_bipush (v := nI 29) d_Mo_code_251 (by decide) ?_
        have r_98 := (ke_97 0 (by decide)).trans ((ke_96 0 (by decide)).trans ((ke_94 0 (by decide)).trans ((ke_77 0 (by decide)).trans ((ke_76 0 (by decide)).trans ((ke_73 0 (by decide)).trans ((ke_71 0 (by decide)).trans ((ke_69 0 (by decide)).trans ((ke_28 0 (by decide)).trans ((ke_27 0 (by decide)).trans ((ke_25 0 (by decide)).trans ((ke_23 0 (by decide)).trans ((ke_21 0 (by decide)).trans ((ke_18 0 (by decide)).trans ((ke_16 0 (by decide)).trans (r_14)))))))))))))))
        have r_99 := (ke_97 29 (by decide)).trans (vr_96)
        refine T_virtual (as := [.int (nI 29), .int (nI 0), .int (nI 29)]) (rest := []) (b := 373) d_Mo_code_253 rfl (jw_Mo_sub.jo (by decide)) lm_Mo_152 ji_Mo_sub js_Mo_sub hE_97.ob rfl rfl rfl (Nat.le_of_ble_eq_true rfl) (by decide) (by decide) (u_Mo_sub hE_97 (by decide) (by decide) (by decide) r_98 r_99) (fun r M_100 hq => ?_)
        obtain ⟨rfl, E_100, hE_100, vr_100, ke_100, kp_100⟩ := hq
        obtain ⟨x_100, hx_100⟩ : ∃ z : Int, z = (0 - x_96) := ⟨_, rfl⟩
        rw [← hx_100] at vr_100
        refine T_eq (pc' := 256) (L' := [(0, .ref 373), (1, .int (nI 12))]) (st' := []) (M' := M_100) rfl rfl rfl rfl ?_
        refine T_aload_n (v := .ref 373) d_Mo_code_256 rfl (Or.inr ⟨_, rfl⟩) ?_
        refine T_bipush (v := nI 29) d_Mo_code_257 (by decide) ?_
        refine T_virtual (as := [.int (nI 29)]) (rest := []) (b := 373) d_Mo_code_259 rfl (jw_Mo_pack.jo (by decide)) lm_Mo_149 ji_Mo_pack js_Mo_pack hE_100.ob rfl rfl rfl (Nat.le_of_ble_eq_true rfl) (by decide) (by decide) (u_Mo_pack hE_100 (by decide) vr_100) (fun r M_101 hq => ?_)
        obtain ⟨rfl, pk_101, E_101, hE_101, ke_101, kp_101⟩ := hq
        refine T_eq (pc' := 262) (L' := [(0, .ref 373), (1, .int (nI 12))]) (st' := []) (M' := M_101) rfl rfl rfl rfl ?_
        have a20 : ph x_6 = cAq (ph Y) (ph Z) := by rw [hx_6, ph_mul, hx_4, ph_sub, hx_1, ph_add]; rfl
        have a21 : ph x_9 = ph X * ph Y := by rw [hx_9, ph_mul]
        have aR : ph x_16 = cR (ph X) (ph Y) (ph Z) := by rw [hx_16, ph_rt, ph_1, hx_12, ph_mul, hx_10, ph_mul, a20, a21]; rfl
        have aS : ph x_25 = cS (ph X) (ph Y) (ph Z) (ph T) := by
          rw [hx_25, ph_mul, hx_23, ph_mul, hx_21, ph_mul, hx_18, ph_mul, aR, a20, a21]; unfold cS; grind -lia -linarith
        have t1 : ph x_27 = ph x_25 * ph T := by rw [hx_27, ph_mul, Lean.Grind.CommSemiring.mul_comm]
        have he : ph x_69 = ph X := by rw [hx_69]
        have hf : ph x_71 = ph Y := by rw [hx_71]
        have hg : ph x_73 = ph X * ph Y * cR (ph X) (ph Y) (ph Z) := by rw [hx_73, hx_21, ph_mul, aR, a21]; grind -lia -linarith
        have t2 : ph x_76 = ph x_69 * ph x_25 := by rw [hx_76, ph_mul]
        have hq : ph x_96 = (ph Z - ph x_71) * ph x_73 := by rw [hx_96, ph_mul, hx_94, ph_sub, Lean.Grind.CommSemiring.mul_comm]
        have hc : ph x_100 = cF (ph X) (ph Y) (ph Z) (ph T) := by
          refine cF_of (S := ph x_25) (e := ph x_69) (f := ph x_71) (g := ph x_73) (f' := ph x_71) (q := ph x_96) aS ?_ ?_ hq ?_
          · exact Or.inr ⟨fun z => hb_28 ((od_of t1).mp z), he, hf, hg⟩
          · exact Or.inr ⟨fun z => hb_77 ((od_of t2).mp z), rfl⟩
          · exact Or.inl ⟨od_ph.mpr hb_97, by rw [hx_100, ph_zs]⟩
        exact T_vret d_Mo_code_262 rfl (by decide) (by decide) ⟨rfl, ⟨_, pk_101, hc⟩, _, hE_101, (KE.tr (KE.tr (KE.tr (KE.tr (KE.tr (KE.tr (KE.tr (KE.tr (KE.tr (KE.tr (KE.tr (KE.tr (KE.tr (KE.tr (KE.tr (KE.tr (KE.tr (KE.tr (KE.tr (KE.tr (KE.tr (KE.tr (KE.tr (KE.rf : KE [20, 21, 22, 23, 24, 25, 26, 27, 28, 29, 50, 51, 52, 53, 54, 55, 56, 61, 62, 63] E E) (KE.mono ke_1 (by decide))) (KE.mono ke_4 (by decide))) (KE.mono ke_6 (by decide))) (KE.mono ke_9 (by decide))) (KE.mono ke_10 (by decide))) (KE.mono ke_12 (by decide))) (KE.mono ke_16 (by decide))) (KE.mono ke_18 (by decide))) (KE.mono ke_21 (by decide))) (KE.mono ke_23 (by decide))) (KE.mono ke_25 (by decide))) (KE.mono ke_27 (by decide))) (KE.mono ke_28 (by decide))) (KE.mono ke_69 (by decide))) (KE.mono ke_71 (by decide))) (KE.mono ke_73 (by decide))) (KE.mono ke_76 (by decide))) (KE.mono ke_77 (by decide))) (KE.mono ke_94 (by decide))) (KE.mono ke_96 (by decide))) (KE.mono ke_97 (by decide))) (KE.mono ke_100 (by decide))) (KE.mono ke_101 (by decide))), (Kp.tr (Kp.tr (Kp.tr (Kp.tr (Kp.tr (Kp.tr (Kp.tr (Kp.tr (Kp.tr (Kp.tr (Kp.tr (Kp.tr (Kp.tr (Kp.tr (Kp.tr (Kp.tr (Kp.tr (Kp.tr (Kp.tr (Kp.tr (Kp.tr (Kp.tr (Kp.tr (Kp.rf : Kp [390, 391, 392, 393, 394] M M) (Kp.mono kp_1 (by decide))) (Kp.mono kp_4 (by decide))) (Kp.mono kp_6 (by decide))) (Kp.mono kp_9 (by decide))) (Kp.mono kp_10 (by decide))) (Kp.mono kp_12 (by decide))) (Kp.mono kp_16 (by decide))) (Kp.mono kp_18 (by decide))) (Kp.mono kp_21 (by decide))) (Kp.mono kp_23 (by decide))) (Kp.mono kp_25 (by decide))) (Kp.mono kp_27 (by decide))) (Kp.mono kp_28 (by decide))) (Kp.mono kp_69 (by decide))) (Kp.mono kp_71 (by decide))) (Kp.mono kp_73 (by decide))) (Kp.mono kp_76 (by decide))) (Kp.mono kp_77 (by decide))) (Kp.mono kp_94 (by decide))) (Kp.mono kp_96 (by decide))) (Kp.mono kp_97 (by decide))) (Kp.mono kp_100 (by decide))) (Kp.mono kp_101 (by decide)))⟩
      · rw [if_neg hb_97]
        refine T_eq (pc' := 244) (L' := [(0, .ref 373), (1, .int (nI 12))]) (st' := [.int (nI 0)]) (M' := M_97) rfl rfl rfl rfl ?_
        refine N_if_eq_t (b := 0) d_Mo_code_244 (tgt := 256) rfl (by omega) (by omega) ?_
        refine T_aload_n (v := .ref 373) d_Mo_code_256 rfl (Or.inr ⟨_, rfl⟩) ?_
        refine T_bipush (v := nI 29) d_Mo_code_257 (by decide) ?_
        have r_102 := (ke_97 29 (by decide)).trans (vr_96)
        refine T_virtual (as := [.int (nI 29)]) (rest := []) (b := 373) d_Mo_code_259 rfl (jw_Mo_pack.jo (by decide)) lm_Mo_149 ji_Mo_pack js_Mo_pack hE_97.ob rfl rfl rfl (Nat.le_of_ble_eq_true rfl) (by decide) (by decide) (u_Mo_pack hE_97 (by decide) r_102) (fun r M_103 hq => ?_)
        obtain ⟨rfl, pk_103, E_103, hE_103, ke_103, kp_103⟩ := hq
        refine T_eq (pc' := 262) (L' := [(0, .ref 373), (1, .int (nI 12))]) (st' := []) (M' := M_103) rfl rfl rfl rfl ?_
        have a20 : ph x_6 = cAq (ph Y) (ph Z) := by rw [hx_6, ph_mul, hx_4, ph_sub, hx_1, ph_add]; rfl
        have a21 : ph x_9 = ph X * ph Y := by rw [hx_9, ph_mul]
        have aR : ph x_16 = cR (ph X) (ph Y) (ph Z) := by rw [hx_16, ph_rt, ph_1, hx_12, ph_mul, hx_10, ph_mul, a20, a21]; rfl
        have aS : ph x_25 = cS (ph X) (ph Y) (ph Z) (ph T) := by
          rw [hx_25, ph_mul, hx_23, ph_mul, hx_21, ph_mul, hx_18, ph_mul, aR, a20, a21]; unfold cS; grind -lia -linarith
        have t1 : ph x_27 = ph x_25 * ph T := by rw [hx_27, ph_mul, Lean.Grind.CommSemiring.mul_comm]
        have he : ph x_69 = ph X := by rw [hx_69]
        have hf : ph x_71 = ph Y := by rw [hx_71]
        have hg : ph x_73 = ph X * ph Y * cR (ph X) (ph Y) (ph Z) := by rw [hx_73, hx_21, ph_mul, aR, a21]; grind -lia -linarith
        have t2 : ph x_76 = ph x_69 * ph x_25 := by rw [hx_76, ph_mul]
        have hq : ph x_96 = (ph Z - ph x_71) * ph x_73 := by rw [hx_96, ph_mul, hx_94, ph_sub, Lean.Grind.CommSemiring.mul_comm]
        have hc : ph x_96 = cF (ph X) (ph Y) (ph Z) (ph T) := by
          refine cF_of (S := ph x_25) (e := ph x_69) (f := ph x_71) (g := ph x_73) (f' := ph x_71) (q := ph x_96) aS ?_ ?_ hq ?_
          · exact Or.inr ⟨fun z => hb_28 ((od_of t1).mp z), he, hf, hg⟩
          · exact Or.inr ⟨fun z => hb_77 ((od_of t2).mp z), rfl⟩
          · exact Or.inr ⟨fun z => hb_97 (od_ph.mp z), rfl⟩
        exact T_vret d_Mo_code_262 rfl (by decide) (by decide) ⟨rfl, ⟨_, pk_103, hc⟩, _, hE_103, (KE.tr (KE.tr (KE.tr (KE.tr (KE.tr (KE.tr (KE.tr (KE.tr (KE.tr (KE.tr (KE.tr (KE.tr (KE.tr (KE.tr (KE.tr (KE.tr (KE.tr (KE.tr (KE.tr (KE.tr (KE.tr (KE.tr (KE.rf : KE [20, 21, 22, 23, 24, 25, 26, 27, 28, 29, 50, 51, 52, 53, 54, 55, 56, 61, 62, 63] E E) (KE.mono ke_1 (by decide))) (KE.mono ke_4 (by decide))) (KE.mono ke_6 (by decide))) (KE.mono ke_9 (by decide))) (KE.mono ke_10 (by decide))) (KE.mono ke_12 (by decide))) (KE.mono ke_16 (by decide))) (KE.mono ke_18 (by decide))) (KE.mono ke_21 (by decide))) (KE.mono ke_23 (by decide))) (KE.mono ke_25 (by decide))) (KE.mono ke_27 (by decide))) (KE.mono ke_28 (by decide))) (KE.mono ke_69 (by decide))) (KE.mono ke_71 (by decide))) (KE.mono ke_73 (by decide))) (KE.mono ke_76 (by decide))) (KE.mono ke_77 (by decide))) (KE.mono ke_94 (by decide))) (KE.mono ke_96 (by decide))) (KE.mono ke_97 (by decide))) (KE.mono ke_103 (by decide))), (Kp.tr (Kp.tr (Kp.tr (Kp.tr (Kp.tr (Kp.tr (Kp.tr (Kp.tr (Kp.tr (Kp.tr (Kp.tr (Kp.tr (Kp.tr (Kp.tr (Kp.tr (Kp.tr (Kp.tr (Kp.tr (Kp.tr (Kp.tr (Kp.tr (Kp.tr (Kp.rf : Kp [390, 391, 392, 393, 394] M M) (Kp.mono kp_1 (by decide))) (Kp.mono kp_4 (by decide))) (Kp.mono kp_6 (by decide))) (Kp.mono kp_9 (by decide))) (Kp.mono kp_10 (by decide))) (Kp.mono kp_12 (by decide))) (Kp.mono kp_16 (by decide))) (Kp.mono kp_18 (by decide))) (Kp.mono kp_21 (by decide))) (Kp.mono kp_23 (by decide))) (Kp.mono kp_25 (by decide))) (Kp.mono kp_27 (by decide))) (Kp.mono kp_28 (by decide))) (Kp.mono kp_69 (by decide))) (Kp.mono kp_71 (by decide))) (Kp.mono kp_73 (by decide))) (Kp.mono kp_76 (by decide))) (Kp.mono kp_77 (by decide))) (Kp.mono kp_94 (by decide))) (Kp.mono kp_96 (by decide))) (Kp.mono kp_97 (by decide))) (Kp.mono kp_103 (by decide)))⟩
set_option maxHeartbeats 8000000 in
theorem u_Mo_code_16 {G : GX} {M : List va_E} {v : Nat → Int32} {E : Nat → Int} (hE : RE M v E) (ck : CK E) {X Y Z T : Int} (ha : P4 E 16 X Y Z T) : CT G mi_Mo_code [.ref 373, .int (nI 16)] M (fun r M' => r = none ∧ (∃ c, PK M' c ∧ ph c = cF (ph X) (ph Y) (ph Z) (ph T)) ∧ qK M v E [20, 21, 22, 23, 24, 25, 26, 27, 28, 29, 50, 51, 52, 53, 54, 55, 56, 61, 62, 63] M') := by
  refine CT.of (by decide) (Nat.le_of_ble_eq_true rfl) ?_
  show TT G mi_Mo_code 0 [(0, .ref 373), (1, .int (nI 16))] [] M 0 0 _
  refine T_aload_n (v := .ref 373) d_Mo_code_0 rfl (Or.inr ⟨_, rfl⟩) ?_
  refine T_bipush (v := nI 20) d_Mo_code_1 (by decide) ?_
  refine T_iload_n d_Mo_code_3 rfl ?_
  refine T_iconst (v := nI 2) d_Mo_code_4 (by decide) ?_
  refine N_iadd (a := 2) (b := 16) (c := 18) d_Mo_code_5 rfl ?_
  refine T_iload_n d_Mo_code_6 rfl ?_
  refine T_iconst (v := nI 1) d_Mo_code_7 (by decide) ?_
  refine N_iadd (a := 1) (b := 16) (c := 17) d_Mo_code_8 rfl ?_
  refine T_virtual (as := [.int (nI 20), .int (nI 18), .int (nI 17)]) (rest := []) (b := 373) d_Mo_code_9 rfl (jw_Mo_add.jo (by decide)) lm_Mo_182 ji_Mo_add js_Mo_add hE.ob rfl rfl rfl (Nat.le_of_ble_eq_true rfl) (by decide) (by decide) (u_Mo_add hE (by decide) (by decide) (by decide) ha.2.2.1 ha.2.1) (fun r M_1 hq => ?_)
  obtain ⟨rfl, E_1, hE_1, vr_1, ke_1, kp_1⟩ := hq
  obtain ⟨x_1, hx_1⟩ : ∃ z : Int, z = (Z + Y) := ⟨_, rfl⟩
  rw [← hx_1] at vr_1
  refine T_eq (pc' := 12) (L' := [(0, .ref 373), (1, .int (nI 16))]) (st' := []) (M' := M_1) rfl rfl rfl rfl ?_
  refine T_aload_n (v := .ref 373) d_Mo_code_12 rfl (Or.inr ⟨_, rfl⟩) ?_
  refine T_bipush (v := nI 21) d_Mo_code_13 (by decide) ?_
  refine T_iload_n d_Mo_code_15 rfl ?_
  refine T_iconst (v := nI 2) d_Mo_code_16 (by decide) ?_
  refine N_iadd (a := 2) (b := 16) (c := 18) d_Mo_code_17 rfl ?_
  refine T_iload_n d_Mo_code_18 rfl ?_
  refine T_iconst (v := nI 1) d_Mo_code_19 (by decide) ?_
  refine N_iadd (a := 1) (b := 16) (c := 17) d_Mo_code_20 rfl ?_
  have r_2 := (ke_1 18 (by decide)).trans (ha.2.2.1)
  have r_3 := (ke_1 17 (by decide)).trans (ha.2.1)
  refine T_virtual (as := [.int (nI 21), .int (nI 18), .int (nI 17)]) (rest := []) (b := 373) d_Mo_code_21 rfl (jw_Mo_sub.jo (by decide)) lm_Mo_152 ji_Mo_sub js_Mo_sub hE_1.ob rfl rfl rfl (Nat.le_of_ble_eq_true rfl) (by decide) (by decide) (u_Mo_sub hE_1 (by decide) (by decide) (by decide) r_2 r_3) (fun r M_4 hq => ?_)
  obtain ⟨rfl, E_4, hE_4, vr_4, ke_4, kp_4⟩ := hq
  obtain ⟨x_4, hx_4⟩ : ∃ z : Int, z = (Z - Y) := ⟨_, rfl⟩
  rw [← hx_4] at vr_4
  refine T_eq (pc' := 24) (L' := [(0, .ref 373), (1, .int (nI 16))]) (st' := []) (M' := M_4) rfl rfl rfl rfl ?_
  refine T_aload_n (v := .ref 373) d_Mo_code_24 rfl (Or.inr ⟨_, rfl⟩) ?_
  refine T_bipush (v := nI 20) d_Mo_code_25 (by decide) ?_
  refine T_bipush (v := nI 20) d_Mo_code_27 (by decide) ?_
  refine T_bipush (v := nI 21) d_Mo_code_29 (by decide) ?_
  have r_5 := (ke_4 20 (by decide)).trans (vr_1)
  refine T_virtual (as := [.int (nI 20), .int (nI 20), .int (nI 21)]) (rest := []) (b := 373) d_Mo_code_31 rfl (jw_Mo_mul.jo (by decide)) lm_Mo_163 ji_Mo_mul js_Mo_mul hE_4.ob rfl rfl rfl (Nat.le_of_ble_eq_true rfl) (by decide) (by decide) (u_Mo_mul hE_4 (by decide) (by decide) (by decide) r_5 vr_4) (fun r M_6 hq => ?_)
  obtain ⟨rfl, E_6, hE_6, vr_6, ke_6, kp_6⟩ := hq
  obtain ⟨x_6, hx_6⟩ : ∃ z : Int, z = (x_1 * x_4) := ⟨_, rfl⟩
  rw [← hx_6] at vr_6
  refine T_eq (pc' := 34) (L' := [(0, .ref 373), (1, .int (nI 16))]) (st' := []) (M' := M_6) rfl rfl rfl rfl ?_
  refine T_aload_n (v := .ref 373) d_Mo_code_34 rfl (Or.inr ⟨_, rfl⟩) ?_
  refine T_bipush (v := nI 21) d_Mo_code_35 (by decide) ?_
  refine T_iload_n d_Mo_code_37 rfl ?_
  refine T_iload_n d_Mo_code_38 rfl ?_
  refine T_iconst (v := nI 1) d_Mo_code_39 (by decide) ?_
  refine N_iadd (a := 1) (b := 16) (c := 17) d_Mo_code_40 rfl ?_
  have r_7 := (ke_6 16 (by decide)).trans ((ke_4 16 (by decide)).trans ((ke_1 16 (by decide)).trans (ha.1)))
  have r_8 := (ke_6 17 (by decide)).trans ((ke_4 17 (by decide)).trans (r_3))
  refine T_virtual (as := [.int (nI 21), .int (nI 16), .int (nI 17)]) (rest := []) (b := 373) d_Mo_code_41 rfl (jw_Mo_mul.jo (by decide)) lm_Mo_163 ji_Mo_mul js_Mo_mul hE_6.ob rfl rfl rfl (Nat.le_of_ble_eq_true rfl) (by decide) (by decide) (u_Mo_mul hE_6 (by decide) (by decide) (by decide) r_7 r_8) (fun r M_9 hq => ?_)
  obtain ⟨rfl, E_9, hE_9, vr_9, ke_9, kp_9⟩ := hq
  obtain ⟨x_9, hx_9⟩ : ∃ z : Int, z = (X * Y) := ⟨_, rfl⟩
  rw [← hx_9] at vr_9
  refine T_eq (pc' := 44) (L' := [(0, .ref 373), (1, .int (nI 16))]) (st' := []) (M' := M_9) rfl rfl rfl rfl ?_
  refine T_aload_n (v := .ref 373) d_Mo_code_44 rfl (Or.inr ⟨_, rfl⟩) ?_
  refine T_bipush (v := nI 22) d_Mo_code_45 (by decide) ?_
  refine T_bipush (v := nI 21) d_Mo_code_47 (by decide) ?_
  refine T_bipush (v := nI 21) d_Mo_code_49 (by decide) ?_
  refine T_virtual (as := [.int (nI 22), .int (nI 21), .int (nI 21)]) (rest := []) (b := 373) d_Mo_code_51 rfl (jw_Mo_mul.jo (by decide)) lm_Mo_163 ji_Mo_mul js_Mo_mul hE_9.ob rfl rfl rfl (Nat.le_of_ble_eq_true rfl) (by decide) (by decide) (u_Mo_mul hE_9 (by decide) (by decide) (by decide) vr_9 vr_9) (fun r M_10 hq => ?_)
  obtain ⟨rfl, E_10, hE_10, vr_10, ke_10, kp_10⟩ := hq
  obtain ⟨x_10, hx_10⟩ : ∃ z : Int, z = (x_9 * x_9) := ⟨_, rfl⟩
  rw [← hx_10] at vr_10
  refine T_eq (pc' := 54) (L' := [(0, .ref 373), (1, .int (nI 16))]) (st' := []) (M' := M_10) rfl rfl rfl rfl ?_
  refine T_aload_n (v := .ref 373) d_Mo_code_54 rfl (Or.inr ⟨_, rfl⟩) ?_
  refine T_bipush (v := nI 22) d_Mo_code_55 (by decide) ?_
  refine T_bipush (v := nI 22) d_Mo_code_57 (by decide) ?_
  refine T_bipush (v := nI 20) d_Mo_code_59 (by decide) ?_
  have r_11 := (ke_10 20 (by decide)).trans ((ke_9 20 (by decide)).trans (vr_6))
  refine T_virtual (as := [.int (nI 22), .int (nI 22), .int (nI 20)]) (rest := []) (b := 373) d_Mo_code_61 rfl (jw_Mo_mul.jo (by decide)) lm_Mo_163 ji_Mo_mul js_Mo_mul hE_10.ob rfl rfl rfl (Nat.le_of_ble_eq_true rfl) (by decide) (by decide) (u_Mo_mul hE_10 (by decide) (by decide) (by decide) vr_10 r_11) (fun r M_12 hq => ?_)
  obtain ⟨rfl, E_12, hE_12, vr_12, ke_12, kp_12⟩ := hq
  obtain ⟨x_12, hx_12⟩ : ∃ z : Int, z = (x_10 * x_6) := ⟨_, rfl⟩
  rw [← hx_12] at vr_12
  refine T_eq (pc' := 64) (L' := [(0, .ref 373), (1, .int (nI 16))]) (st' := []) (M' := M_12) rfl rfl rfl rfl ?_
  refine T_aload_n (v := .ref 373) d_Mo_code_64 rfl (Or.inr ⟨_, rfl⟩) ?_
  refine T_bipush (v := nI 22) d_Mo_code_65 (by decide) ?_
  refine T_iconst (v := nI 1) d_Mo_code_67 (by decide) ?_
  refine T_bipush (v := nI 22) d_Mo_code_68 (by decide) ?_
  have r_13 := (ke_12 1 (by decide)).trans ((ke_10 1 (by decide)).trans ((ke_9 1 (by decide)).trans ((ke_6 1 (by decide)).trans ((ke_4 1 (by decide)).trans ((ke_1 1 (by decide)).trans (ck.c1))))))
  have r_14 := (ke_12 0 (by decide)).trans ((ke_10 0 (by decide)).trans ((ke_9 0 (by decide)).trans ((ke_6 0 (by decide)).trans ((ke_4 0 (by decide)).trans ((ke_1 0 (by decide)).trans (ck.c0))))))
  have r_15 := (ke_12 3 (by decide)).trans ((ke_10 3 (by decide)).trans ((ke_9 3 (by decide)).trans ((ke_6 3 (by decide)).trans ((ke_4 3 (by decide)).trans ((ke_1 3 (by decide)).trans (ck.c3))))))
  refine T_virtual (as := [.int (nI 22), .int (nI 1), .int (nI 22)]) (rest := []) (b := 373) d_Mo_code_70 rfl (jw_Mo_root.jo (by decide)) lm_Mo_197 ji_Mo_root js_Mo_root hE_12.ob rfl rfl rfl (Nat.le_of_ble_eq_true rfl) (by decide) (by decide) (u_Mo_root hE_12 r_14 r_15 (by decide) (by decide) (by decide) (by decide) (by decide) r_13 vr_12) (fun r M_16 hq => ?_)
  obtain ⟨rfl, E_16, hE_16, vr_16, ke_16, kp_16⟩ := hq
  obtain ⟨x_16, hx_16⟩ : ∃ z : Int, z = (rt 1 x_12) := ⟨_, rfl⟩
  rw [← hx_16] at vr_16
  have hg_16 := rtG_le 1 x_12
  refine T_eq (pc' := 73) (L' := [(0, .ref 373), (1, .int (nI 16))]) (st' := [.int (nI ((rtG 1 x_12)))]) (M' := M_16) rfl rfl rfl rfl ?_
  refine T_pop d_Mo_code_73 rfl ?_
  refine T_aload_n (v := .ref 373) d_Mo_code_74 rfl (Or.inr ⟨_, rfl⟩) ?_
  refine T_bipush (v := nI 23) d_Mo_code_75 (by decide) ?_
  refine T_bipush (v := nI 22) d_Mo_code_77 (by decide) ?_
  refine T_bipush (v := nI 20) d_Mo_code_79 (by decide) ?_
  have r_17 := (ke_16 20 (by decide)).trans ((ke_12 20 (by decide)).trans (r_11))
  refine T_virtual (as := [.int (nI 23), .int (nI 22), .int (nI 20)]) (rest := []) (b := 373) d_Mo_code_81 rfl (jw_Mo_mul.jo (by decide)) lm_Mo_163 ji_Mo_mul js_Mo_mul hE_16.ob rfl rfl rfl (Nat.le_of_ble_eq_true rfl) (by decide) (by decide) (u_Mo_mul hE_16 (by decide) (by decide) (by decide) vr_16 r_17) (fun r M_18 hq => ?_)
  obtain ⟨rfl, E_18, hE_18, vr_18, ke_18, kp_18⟩ := hq
  obtain ⟨x_18, hx_18⟩ : ∃ z : Int, z = (x_16 * x_6) := ⟨_, rfl⟩
  rw [← hx_18] at vr_18
  refine T_eq (pc' := 84) (L' := [(0, .ref 373), (1, .int (nI 16))]) (st' := []) (M' := M_18) rfl rfl rfl rfl ?_
  refine T_aload_n (v := .ref 373) d_Mo_code_84 rfl (Or.inr ⟨_, rfl⟩) ?_
  refine T_bipush (v := nI 24) d_Mo_code_85 (by decide) ?_
  refine T_bipush (v := nI 22) d_Mo_code_87 (by decide) ?_
  refine T_bipush (v := nI 21) d_Mo_code_89 (by decide) ?_
  have r_19 := (ke_18 22 (by decide)).trans (vr_16)
  have r_20 := (ke_18 21 (by decide)).trans ((ke_16 21 (by decide)).trans ((ke_12 21 (by decide)).trans ((ke_10 21 (by decide)).trans (vr_9))))
  refine T_virtual (as := [.int (nI 24), .int (nI 22), .int (nI 21)]) (rest := []) (b := 373) d_Mo_code_91 rfl (jw_Mo_mul.jo (by decide)) lm_Mo_163 ji_Mo_mul js_Mo_mul hE_18.ob rfl rfl rfl (Nat.le_of_ble_eq_true rfl) (by decide) (by decide) (u_Mo_mul hE_18 (by decide) (by decide) (by decide) r_19 r_20) (fun r M_21 hq => ?_)
  obtain ⟨rfl, E_21, hE_21, vr_21, ke_21, kp_21⟩ := hq
  obtain ⟨x_21, hx_21⟩ : ∃ z : Int, z = (x_16 * x_9) := ⟨_, rfl⟩
  rw [← hx_21] at vr_21
  refine T_eq (pc' := 94) (L' := [(0, .ref 373), (1, .int (nI 16))]) (st' := []) (M' := M_21) rfl rfl rfl rfl ?_
  refine T_aload_n (v := .ref 373) d_Mo_code_94 rfl (Or.inr ⟨_, rfl⟩) ?_
  refine T_bipush (v := nI 25) d_Mo_code_95 (by decide) ?_
  refine T_bipush (v := nI 23) d_Mo_code_97 (by decide) ?_
  refine T_bipush (v := nI 24) d_Mo_code_99 (by decide) ?_
  have r_22 := (ke_21 23 (by decide)).trans (vr_18)
  refine T_virtual (as := [.int (nI 25), .int (nI 23), .int (nI 24)]) (rest := []) (b := 373) d_Mo_code_101 rfl (jw_Mo_mul.jo (by decide)) lm_Mo_163 ji_Mo_mul js_Mo_mul hE_21.ob rfl rfl rfl (Nat.le_of_ble_eq_true rfl) (by decide) (by decide) (u_Mo_mul hE_21 (by decide) (by decide) (by decide) r_22 vr_21) (fun r M_23 hq => ?_)
  obtain ⟨rfl, E_23, hE_23, vr_23, ke_23, kp_23⟩ := hq
  obtain ⟨x_23, hx_23⟩ : ∃ z : Int, z = (x_18 * x_21) := ⟨_, rfl⟩
  rw [← hx_23] at vr_23
  refine T_eq (pc' := 104) (L' := [(0, .ref 373), (1, .int (nI 16))]) (st' := []) (M' := M_23) rfl rfl rfl rfl ?_
  refine T_aload_n (v := .ref 373) d_Mo_code_104 rfl (Or.inr ⟨_, rfl⟩) ?_
  refine T_bipush (v := nI 25) d_Mo_code_105 (by decide) ?_
  refine T_bipush (v := nI 25) d_Mo_code_107 (by decide) ?_
  refine T_iload_n d_Mo_code_109 rfl ?_
  refine T_iconst (v := nI 3) d_Mo_code_110 (by decide) ?_
  refine N_iadd (a := 3) (b := 16) (c := 19) d_Mo_code_111 rfl ?_
  have r_24 := (ke_23 19 (by decide)).trans ((ke_21 19 (by decide)).trans ((ke_18 19 (by decide)).trans ((ke_16 19 (by decide)).trans ((ke_12 19 (by decide)).trans ((ke_10 19 (by decide)).trans ((ke_9 19 (by decide)).trans ((ke_6 19 (by decide)).trans ((ke_4 19 (by decide)).trans ((ke_1 19 (by decide)).trans (ha.2.2.2))))))))))
  refine T_virtual (as := [.int (nI 25), .int (nI 25), .int (nI 19)]) (rest := []) (b := 373) d_Mo_code_112 rfl (jw_Mo_mul.jo (by decide)) lm_Mo_163 ji_Mo_mul js_Mo_mul hE_23.ob rfl rfl rfl (Nat.le_of_ble_eq_true rfl) (by decide) (by decide) (u_Mo_mul hE_23 (by decide) (by decide) (by decide) vr_23 r_24) (fun r M_25 hq => ?_)
  obtain ⟨rfl, E_25, hE_25, vr_25, ke_25, kp_25⟩ := hq
  obtain ⟨x_25, hx_25⟩ : ∃ z : Int, z = (x_23 * T) := ⟨_, rfl⟩
  rw [← hx_25] at vr_25
  refine T_eq (pc' := 115) (L' := [(0, .ref 373), (1, .int (nI 16))]) (st' := []) (M' := M_25) rfl rfl rfl rfl ?_
  refine T_aload_n (v := .ref 373) d_Mo_code_115 rfl (Or.inr ⟨_, rfl⟩) ?_
  refine T_bipush (v := nI 26) d_Mo_code_116 (by decide) ?_
  refine T_iload_n d_Mo_code_118 rfl ?_
  refine T_iconst (v := nI 3) d_Mo_code_119 (by decide) ?_
  refine N_iadd (a := 3) (b := 16) (c := 19) d_Mo_code_120 rfl ?_
  refine T_bipush (v := nI 25) d_Mo_code_121 (by decide) ?_
  have r_26 := (ke_25 19 (by decide)).trans (r_24)
  refine T_virtual (as := [.int (nI 26), .int (nI 19), .int (nI 25)]) (rest := []) (b := 373) d_Mo_code_123 rfl (jw_Mo_mul.jo (by decide)) lm_Mo_163 ji_Mo_mul js_Mo_mul hE_25.ob rfl rfl rfl (Nat.le_of_ble_eq_true rfl) (by decide) (by decide) (u_Mo_mul hE_25 (by decide) (by decide) (by decide) r_26 vr_25) (fun r M_27 hq => ?_)
  obtain ⟨rfl, E_27, hE_27, vr_27, ke_27, kp_27⟩ := hq
  obtain ⟨x_27, hx_27⟩ : ∃ z : Int, z = (T * x_25) := ⟨_, rfl⟩
  rw [← hx_27] at vr_27
  refine T_eq (pc' := 126) (L' := [(0, .ref 373), (1, .int (nI 16))]) (st' := []) (M' := M_27) rfl rfl rfl rfl ?_
  refine T_aload_n (v := .ref 373) d_Mo_code_126 rfl (Or.inr ⟨_, rfl⟩) ?_
  refine T_bipush (v := nI 26) d_Mo_code_127 (by decide) ?_
  refine T_virtual (as := [.int (nI 26)]) (rest := []) (b := 373) d_Mo_code_129 rfl (jw_Mo_odd.jo (by decide)) lm_Mo_174 ji_Mo_odd js_Mo_odd hE_27.ob rfl rfl rfl (Nat.le_of_ble_eq_true rfl) (by decide) (by decide) (u_Mo_odd hE_27 (by decide) vr_27) (fun r M_28 hq => ?_)
  obtain ⟨rfl, pk_28, E_28, hE_28, ke_28, kp_28⟩ := hq
  by_cases hb_28 : (x_27 % pP) % 2 = 1
  · rw [if_pos hb_28]
    refine T_eq (pc' := 132) (L' := [(0, .ref 373), (1, .int (nI 16))]) (st' := [.int (nI 1)]) (M' := M_28) rfl rfl rfl rfl ?_
    refine N_if_eq_f (b := 1) d_Mo_code_132 (tgt := 165) rfl (by omega) (by omega) ?_
    refine T_aload_n (v := .ref 373) d_Mo_code_135 rfl (Or.inr ⟨_, rfl⟩) ?_
    refine T_bipush (v := nI 27) d_Mo_code_136 (by decide) ?_
    refine T_iconst (v := nI 3) d_Mo_code_138 (by decide) ?_
    refine T_iload_n d_Mo_code_139 rfl ?_
    refine T_iconst (v := nI 1) d_Mo_code_140 (by decide) ?_
    refine N_iadd (a := 1) (b := 16) (c := 17) d_Mo_code_141 rfl ?_
    have r_29 := (ke_28 3 (by decide)).trans ((ke_27 3 (by decide)).trans ((ke_25 3 (by decide)).trans ((ke_23 3 (by decide)).trans ((ke_21 3 (by decide)).trans ((ke_18 3 (by decide)).trans ((ke_16 3 (by decide)).trans (r_15)))))))
    have r_30 := (ke_28 17 (by decide)).trans ((ke_27 17 (by decide)).trans ((ke_25 17 (by decide)).trans ((ke_23 17 (by decide)).trans ((ke_21 17 (by decide)).trans ((ke_18 17 (by decide)).trans ((ke_16 17 (by decide)).trans ((ke_12 17 (by decide)).trans ((ke_10 17 (by decide)).trans ((ke_9 17 (by decide)).trans (r_8))))))))))
    refine T_virtual (as := [.int (nI 27), .int (nI 3), .int (nI 17)]) (rest := []) (b := 373) d_Mo_code_142 rfl (jw_Mo_mul.jo (by decide)) lm_Mo_163 ji_Mo_mul js_Mo_mul hE_28.ob rfl rfl rfl (Nat.le_of_ble_eq_true rfl) (by decide) (by decide) (u_Mo_mul hE_28 (by decide) (by decide) (by decide) r_29 r_30) (fun r M_31 hq => ?_)
    obtain ⟨rfl, E_31, hE_31, vr_31, ke_31, kp_31⟩ := hq
    obtain ⟨x_31, hx_31⟩ : ∃ z : Int, z = (cI * Y) := ⟨_, rfl⟩
    rw [← hx_31] at vr_31
    refine T_eq (pc' := 145) (L' := [(0, .ref 373), (1, .int (nI 16))]) (st' := []) (M' := M_31) rfl rfl rfl rfl ?_
    refine T_aload_n (v := .ref 373) d_Mo_code_145 rfl (Or.inr ⟨_, rfl⟩) ?_
    refine T_bipush (v := nI 28) d_Mo_code_146 (by decide) ?_
    refine T_iconst (v := nI 3) d_Mo_code_148 (by decide) ?_
    refine T_iload_n d_Mo_code_149 rfl ?_
    have r_32 := (ke_31 3 (by decide)).trans (r_29)
    have r_33 := (ke_31 16 (by decide)).trans ((ke_28 16 (by decide)).trans ((ke_27 16 (by decide)).trans ((ke_25 16 (by decide)).trans ((ke_23 16 (by decide)).trans ((ke_21 16 (by decide)).trans ((ke_18 16 (by decide)).trans ((ke_16 16 (by decide)).trans ((ke_12 16 (by decide)).trans ((ke_10 16 (by decide)).trans ((ke_9 16 (by decide)).trans (r_7)))))))))))
    refine T_virtual (as := [.int (nI 28), .int (nI 3), .int (nI 16)]) (rest := []) (b := 373) d_Mo_code_150 rfl (jw_Mo_mul.jo (by decide)) lm_Mo_163 ji_Mo_mul js_Mo_mul hE_31.ob rfl rfl rfl (Nat.le_of_ble_eq_true rfl) (by decide) (by decide) (u_Mo_mul hE_31 (by decide) (by decide) (by decide) r_32 r_33) (fun r M_34 hq => ?_)
    obtain ⟨rfl, E_34, hE_34, vr_34, ke_34, kp_34⟩ := hq
    obtain ⟨x_34, hx_34⟩ : ∃ z : Int, z = (cI * X) := ⟨_, rfl⟩
    rw [← hx_34] at vr_34
    refine T_eq (pc' := 153) (L' := [(0, .ref 373), (1, .int (nI 16))]) (st' := []) (M' := M_34) rfl rfl rfl rfl ?_
    refine T_aload_n (v := .ref 373) d_Mo_code_153 rfl (Or.inr ⟨_, rfl⟩) ?_
    refine T_bipush (v := nI 29) d_Mo_code_154 (by decide) ?_
    refine T_bipush (v := nI 23) d_Mo_code_156 (by decide) ?_
    refine T_iconst (v := nI 4) d_Mo_code_158 (by decide) ?_
    have r_35 := (ke_34 23 (by decide)).trans ((ke_31 23 (by decide)).trans ((ke_28 23 (by decide)).trans ((ke_27 23 (by decide)).trans ((ke_25 23 (by decide)).trans ((ke_23 23 (by decide)).trans (r_22))))))
    have r_36 := (ke_34 4 (by decide)).trans ((ke_31 4 (by decide)).trans ((ke_28 4 (by decide)).trans ((ke_27 4 (by decide)).trans ((ke_25 4 (by decide)).trans ((ke_23 4 (by decide)).trans ((ke_21 4 (by decide)).trans ((ke_18 4 (by decide)).trans ((ke_16 4 (by decide)).trans ((ke_12 4 (by decide)).trans ((ke_10 4 (by decide)).trans ((ke_9 4 (by decide)).trans ((ke_6 4 (by decide)).trans ((ke_4 4 (by decide)).trans ((ke_1 4 (by decide)).trans (ck.c4)))))))))))))))
    refine T_virtual (as := [.int (nI 29), .int (nI 23), .int (nI 4)]) (rest := []) (b := 373) d_Mo_code_159 rfl (jw_Mo_mul.jo (by decide)) lm_Mo_163 ji_Mo_mul js_Mo_mul hE_34.ob rfl rfl rfl (Nat.le_of_ble_eq_true rfl) (by decide) (by decide) (u_Mo_mul hE_34 (by decide) (by decide) (by decide) r_35 r_36) (fun r M_37 hq => ?_)
    obtain ⟨rfl, E_37, hE_37, vr_37, ke_37, kp_37⟩ := hq
    obtain ⟨x_37, hx_37⟩ : ∃ z : Int, z = (x_18 * cE) := ⟨_, rfl⟩
    rw [← hx_37] at vr_37
    refine T_eq (pc' := 162) (L' := [(0, .ref 373), (1, .int (nI 16))]) (st' := []) (M' := M_37) rfl rfl rfl rfl ?_
    refine T_goto (tgt := 189) d_Mo_code_162 rfl ?_
    refine T_aload_n (v := .ref 373) d_Mo_code_189 rfl (Or.inr ⟨_, rfl⟩) ?_
    refine T_bipush (v := nI 26) d_Mo_code_190 (by decide) ?_
    refine T_bipush (v := nI 27) d_Mo_code_192 (by decide) ?_
    refine T_bipush (v := nI 25) d_Mo_code_194 (by decide) ?_
    have r_38 := (ke_37 27 (by decide)).trans ((ke_34 27 (by decide)).trans (vr_31))
    have r_39 := (ke_37 25 (by decide)).trans ((ke_34 25 (by decide)).trans ((ke_31 25 (by decide)).trans ((ke_28 25 (by decide)).trans ((ke_27 25 (by decide)).trans (vr_25)))))
    refine T_virtual (as := [.int (nI 26), .int (nI 27), .int (nI 25)]) (rest := []) (b := 373) d_Mo_code_196 rfl (jw_Mo_mul.jo (by decide)) lm_Mo_163 ji_Mo_mul js_Mo_mul hE_37.ob rfl rfl rfl (Nat.le_of_ble_eq_true rfl) (by decide) (by decide) (u_Mo_mul hE_37 (by decide) (by decide) (by decide) r_38 r_39) (fun r M_40 hq => ?_)
    obtain ⟨rfl, E_40, hE_40, vr_40, ke_40, kp_40⟩ := hq
    obtain ⟨x_40, hx_40⟩ : ∃ z : Int, z = (x_31 * x_25) := ⟨_, rfl⟩
    rw [← hx_40] at vr_40
    refine T_eq (pc' := 199) (L' := [(0, .ref 373), (1, .int (nI 16))]) (st' := []) (M' := M_40) rfl rfl rfl rfl ?_
    refine T_aload_n (v := .ref 373) d_Mo_code_199 rfl (Or.inr ⟨_, rfl⟩) ?_
    refine T_bipush (v := nI 26) d_Mo_code_200 (by decide) ?_
    refine T_virtual (as := [.int (nI 26)]) (rest := []) (b := 373) d_Mo_code_202 rfl (jw_Mo_odd.jo (by decide)) lm_Mo_174 ji_Mo_odd js_Mo_odd hE_40.ob rfl rfl rfl (Nat.le_of_ble_eq_true rfl) (by decide) (by decide) (u_Mo_odd hE_40 (by decide) vr_40) (fun r M_41 hq => ?_)
    obtain ⟨rfl, pk_41, E_41, hE_41, ke_41, kp_41⟩ := hq
    by_cases hb_41 : (x_40 % pP) % 2 = 1
    · rw [if_pos hb_41]
      refine T_eq (pc' := 205) (L' := [(0, .ref 373), (1, .int (nI 16))]) (st' := [.int (nI 1)]) (M' := M_41) rfl rfl rfl rfl ?_
      refine N_if_eq_f (b := 1) d_Mo_code_205 (tgt := 217) rfl (by omega) (by omega) ?_
      refine T_aload_n (v := .ref 373) d_Mo_code_208 rfl (Or.inr ⟨_, rfl⟩) ?_
      refine T_bipush (v := nI 28) d_Mo_code_209 (by decide) ?_
      refine T_iconst (v := nI 0) d_Mo_code_211 (by decide) ?_
      refine T_bipush (v := nI 28) d_Mo_code_212 (by decide) ?_
      have r_42 := (ke_41 0 (by decide)).trans ((ke_40 0 (by decide)).trans ((ke_37 0 (by decide)).trans ((ke_34 0 (by decide)).trans ((ke_31 0 (by decide)).trans ((ke_28 0 (by decide)).trans ((ke_27 0 (by decide)).trans ((ke_25 0 (by decide)).trans ((ke_23 0 (by decide)).trans ((ke_21 0 (by decide)).trans ((ke_18 0 (by decide)).trans ((ke_16 0 (by decide)).trans (r_14))))))))))))
      have r_43 := (ke_41 28 (by decide)).trans ((ke_40 28 (by decide)).trans ((ke_37 28 (by decide)).trans (vr_34)))
      refine T_virtual (as := [.int (nI 28), .int (nI 0), .int (nI 28)]) (rest := []) (b := 373) d_Mo_code_214 rfl (jw_Mo_sub.jo (by decide)) lm_Mo_152 ji_Mo_sub js_Mo_sub hE_41.ob rfl rfl rfl (Nat.le_of_ble_eq_true rfl) (by decide) (by decide) (u_Mo_sub hE_41 (by decide) (by decide) (by decide) r_42 r_43) (fun r M_44 hq => ?_)
      obtain ⟨rfl, E_44, hE_44, vr_44, ke_44, kp_44⟩ := hq
      obtain ⟨x_44, hx_44⟩ : ∃ z : Int, z = (0 - x_34) := ⟨_, rfl⟩
      rw [← hx_44] at vr_44
      refine T_eq (pc' := 217) (L' := [(0, .ref 373), (1, .int (nI 16))]) (st' := []) (M' := M_44) rfl rfl rfl rfl ?_
      refine T_aload_n (v := .ref 373) d_Mo_code_217 rfl (Or.inr ⟨_, rfl⟩) ?_
      refine T_bipush (v := nI 28) d_Mo_code_218 (by decide) ?_
      refine T_iload_n d_Mo_code_220 rfl ?_
      refine T_iconst (v := nI 2) d_Mo_code_221 (by decide) ?_
      refine N_iadd (a := 2) (b := 16) (c := 18) d_Mo_code_222 rfl ?_
      refine T_bipush (v := nI 28) d_Mo_code_223 (by decide) ?_
      have r_45 := (ke_44 18 (by decide)).trans ((ke_41 18 (by decide)).trans ((ke_40 18 (by decide)).trans ((ke_37 18 (by decide)).trans ((ke_34 18 (by decide)).trans ((ke_31 18 (by decide)).trans ((ke_28 18 (by decide)).trans ((ke_27 18 (by decide)).trans ((ke_25 18 (by decide)).trans ((ke_23 18 (by decide)).trans ((ke_21 18 (by decide)).trans ((ke_18 18 (by decide)).trans ((ke_16 18 (by decide)).trans ((ke_12 18 (by decide)).trans ((ke_10 18 (by decide)).trans ((ke_9 18 (by decide)).trans ((ke_6 18 (by decide)).trans ((ke_4 18 (by decide)).trans (r_2))))))))))))))))))
      refine T_virtual (as := [.int (nI 28), .int (nI 18), .int (nI 28)]) (rest := []) (b := 373) d_Mo_code_225 rfl (jw_Mo_sub.jo (by decide)) lm_Mo_152 ji_Mo_sub js_Mo_sub hE_44.ob rfl rfl rfl (Nat.le_of_ble_eq_true rfl) (by decide) (by decide) (u_Mo_sub hE_44 (by decide) (by decide) (by decide) r_45 vr_44) (fun r M_46 hq => ?_)
      obtain ⟨rfl, E_46, hE_46, vr_46, ke_46, kp_46⟩ := hq
      obtain ⟨x_46, hx_46⟩ : ∃ z : Int, z = (Z - x_44) := ⟨_, rfl⟩
      rw [← hx_46] at vr_46
      refine T_eq (pc' := 228) (L' := [(0, .ref 373), (1, .int (nI 16))]) (st' := []) (M' := M_46) rfl rfl rfl rfl ?_
      refine T_aload_n (v := .ref 373) d_Mo_code_228 rfl (Or.inr ⟨_, rfl⟩) ?_
      refine T_bipush (v := nI 29) d_Mo_code_229 (by decide) ?_
      refine T_bipush (v := nI 29) d_Mo_code_231 (by decide) ?_
      refine T_bipush (v := nI 28) d_Mo_code_233 (by decide) ?_
      have r_47 := (ke_46 29 (by decide)).trans ((ke_44 29 (by decide)).trans ((ke_41 29 (by decide)).trans ((ke_40 29 (by decide)).trans (vr_37))))
      refine T_virtual (as := [.int (nI 29), .int (nI 29), .int (nI 28)]) (rest := []) (b := 373) d_Mo_code_235 rfl (jw_Mo_mul.jo (by decide)) lm_Mo_163 ji_Mo_mul js_Mo_mul hE_46.ob rfl rfl rfl (Nat.le_of_ble_eq_true rfl) (by decide) (by decide) (u_Mo_mul hE_46 (by decide) (by decide) (by decide) r_47 vr_46) (fun r M_48 hq => ?_)
      obtain ⟨rfl, E_48, hE_48, vr_48, ke_48, kp_48⟩ := hq
      obtain ⟨x_48, hx_48⟩ : ∃ z : Int, z = (x_37 * x_46) := ⟨_, rfl⟩
      rw [← hx_48] at vr_48
      refine T_eq (pc' := 238) (L' := [(0, .ref 373), (1, .int (nI 16))]) (st' := []) (M' := M_48) rfl rfl rfl rfl ?_
      refine T_aload_n (v := .ref 373) d_Mo_code_238 rfl (Or.inr ⟨_, rfl⟩) ?_
      refine T_bipush (v := nI 29) d_Mo_code_239 (by decide) ?_
      refine T_virtual (as := [.int (nI 29)]) (rest := []) (b := 373) d_Mo_code_241 rfl (jw_Mo_odd.jo (by decide)) lm_Mo_174 ji_Mo_odd js_Mo_odd hE_48.ob rfl rfl rfl (Nat.le_of_ble_eq_true rfl) (by decide) (by decide) (u_Mo_odd hE_48 (by decide) vr_48) (fun r M_49 hq => ?_)
      obtain ⟨rfl, pk_49, E_49, hE_49, ke_49, kp_49⟩ := hq
      by_cases hb_49 : (x_48 % pP) % 2 = 1
      · rw [if_pos hb_49]
        refine T_eq (pc' := 244) (L' := [(0, .ref 373), (1, .int (nI 16))]) (st' := [.int (nI 1)]) (M' := M_49) rfl rfl rfl rfl ?_
        refine N_if_eq_f (b := 1) d_Mo_code_244 (tgt := 256) rfl (by omega) (by omega) ?_
        refine T_aload_n (v := .ref 373) d_Mo_code_247 rfl (Or.inr ⟨_, rfl⟩) ?_
        refine T_bipush (v := nI 29) d_Mo_code_248 (by decide) ?_
        refine T_iconst (v := nI 0) d_Mo_code_250 (by decide) ?_
        refine T_bipush (v := nI 29) d_Mo_code_251 (by decide) ?_
        have r_50 := (ke_49 0 (by decide)).trans ((ke_48 0 (by decide)).trans ((ke_46 0 (by decide)).trans ((ke_44 0 (by decide)).trans (r_42))))
        have r_51 := (ke_49 29 (by decide)).trans (vr_48)
        refine T_virtual (as := [.int (nI 29), .int (nI 0), .int (nI 29)]) (rest := []) (b := 373) d_Mo_code_253 rfl (jw_Mo_sub.jo (by decide)) lm_Mo_152 ji_Mo_sub js_Mo_sub hE_49.ob rfl rfl rfl (Nat.le_of_ble_eq_true rfl) (by decide) (by decide) (u_Mo_sub hE_49 (by decide) (by decide) (by decide) r_50 r_51) (fun r M_52 hq => ?_)
        obtain ⟨rfl, E_52, hE_52, vr_52, ke_52, kp_52⟩ := hq
        obtain ⟨x_52, hx_52⟩ : ∃ z : Int, z = (0 - x_48) := ⟨_, rfl⟩
        rw [← hx_52] at vr_52
        refine T_eq (pc' := 256) (L' := [(0, .ref 373), (1, .int (nI 16))]) (st' := []) (M' := M_52) rfl rfl rfl rfl ?_
        refine T_aload_n (v := .ref 373) d_Mo_code_256 rfl (Or.inr ⟨_, rfl⟩) ?_
        refine T_bipush (v := nI 29) d_Mo_code_257 (by decide) ?_
        refine T_virtual (as := [.int (nI 29)]) (rest := []) (b := 373) d_Mo_code_259 rfl (jw_Mo_pack.jo (by decide)) lm_Mo_149 ji_Mo_pack js_Mo_pack hE_52.ob rfl rfl rfl (Nat.le_of_ble_eq_true rfl) (by decide) (by decide) (u_Mo_pack hE_52 (by decide) vr_52) (fun r M_53 hq => ?_)
        obtain ⟨rfl, pk_53, E_53, hE_53, ke_53, kp_53⟩ := hq
        refine T_eq (pc' := 262) (L' := [(0, .ref 373), (1, .int (nI 16))]) (st' := []) (M' := M_53) rfl rfl rfl rfl ?_
        have a20 : ph x_6 = cAq (ph Y) (ph Z) := by rw [hx_6, ph_mul, hx_4, ph_sub, hx_1, ph_add]; rfl
        have a21 : ph x_9 = ph X * ph Y := by rw [hx_9, ph_mul]
        have aR : ph x_16 = cR (ph X) (ph Y) (ph Z) := by rw [hx_16, ph_rt, ph_1, hx_12, ph_mul, hx_10, ph_mul, a20, a21]; rfl
        have aS : ph x_25 = cS (ph X) (ph Y) (ph Z) (ph T) := by
          rw [hx_25, ph_mul, hx_23, ph_mul, hx_21, ph_mul, hx_18, ph_mul, aR, a20, a21]; unfold cS; grind -lia -linarith
        have t1 : ph x_27 = ph x_25 * ph T := by rw [hx_27, ph_mul, Lean.Grind.CommSemiring.mul_comm]
        have he : ph x_31 = ph Y * fI := by rw [hx_31, ph_mul, ph_cI, Lean.Grind.CommSemiring.mul_comm]
        have hf : ph x_34 = ph X * fI := by rw [hx_34, ph_mul, ph_cI, Lean.Grind.CommSemiring.mul_comm]
        have hg : ph x_37 = cAq (ph Y) (ph Z) * cR (ph X) (ph Y) (ph Z) * fE := by rw [hx_37, ph_mul, ph_cE, hx_18, ph_mul, aR, a20]; grind -lia -linarith
        have t2 : ph x_40 = ph x_31 * ph x_25 := by rw [hx_40, ph_mul]
        have hq : ph x_48 = (ph Z - ph x_44) * ph x_37 := by rw [hx_48, ph_mul, hx_46, ph_sub, Lean.Grind.CommSemiring.mul_comm]
        have hc : ph x_52 = cF (ph X) (ph Y) (ph Z) (ph T) := by
          refine cF_of (S := ph x_25) (e := ph x_31) (f := ph x_34) (g := ph x_37) (f' := ph x_44) (q := ph x_48) aS ?_ ?_ hq ?_
          · exact Or.inl ⟨(od_of t1).mpr hb_28, he, hf, hg⟩
          · exact Or.inl ⟨(od_of t2).mpr hb_41, by rw [hx_44, ph_zs]⟩
          · exact Or.inl ⟨od_ph.mpr hb_49, by rw [hx_52, ph_zs]⟩
        exact T_vret d_Mo_code_262 rfl (by decide) (by decide) ⟨rfl, ⟨_, pk_53, hc⟩, _, hE_53, (KE.tr (KE.tr (KE.tr (KE.tr (KE.tr (KE.tr (KE.tr (KE.tr (KE.tr (KE.tr (KE.tr (KE.tr (KE.tr (KE.tr (KE.tr (KE.tr (KE.tr (KE.tr (KE.tr (KE.tr (KE.tr (KE.tr (KE.tr (KE.tr (KE.rf : KE [20, 21, 22, 23, 24, 25, 26, 27, 28, 29, 50, 51, 52, 53, 54, 55, 56, 61, 62, 63] E E) (KE.mono ke_1 (by decide))) (KE.mono ke_4 (by decide))) (KE.mono ke_6 (by decide))) (KE.mono ke_9 (by decide))) (KE.mono ke_10 (by decide))) (KE.mono ke_12 (by decide))) (KE.mono ke_16 (by decide))) (KE.mono ke_18 (by decide))) (KE.mono ke_21 (by decide))) (KE.mono ke_23 (by decide))) (KE.mono ke_25 (by decide))) (KE.mono ke_27 (by decide))) (KE.mono ke_28 (by decide))) (KE.mono ke_31 (by decide))) (KE.mono ke_34 (by decide))) (KE.mono ke_37 (by decide))) (KE.mono ke_40 (by decide))) (KE.mono ke_41 (by decide))) (KE.mono ke_44 (by decide))) (KE.mono ke_46 (by decide))) (KE.mono ke_48 (by decide))) (KE.mono ke_49 (by decide))) (KE.mono ke_52 (by decide))) (KE.mono ke_53 (by decide))), (Kp.tr (Kp.tr (Kp.tr (Kp.tr (Kp.tr (Kp.tr (Kp.tr (Kp.tr (Kp.tr (Kp.tr (Kp.tr (Kp.tr (Kp.tr (Kp.tr (Kp.tr (Kp.tr (Kp.tr (Kp.tr (Kp.tr (Kp.tr (Kp.tr (Kp.tr (Kp.tr (Kp.tr (Kp.rf : Kp [390, 391, 392, 393, 394] M M) (Kp.mono kp_1 (by decide))) (Kp.mono kp_4 (by decide))) (Kp.mono kp_6 (by decide))) (Kp.mono kp_9 (by decide))) (Kp.mono kp_10 (by decide))) (Kp.mono kp_12 (by decide))) (Kp.mono kp_16 (by decide))) (Kp.mono kp_18 (by decide))) (Kp.mono kp_21 (by decide))) (Kp.mono kp_23 (by decide))) (Kp.mono kp_25 (by decide))) (Kp.mono kp_27 (by decide))) (Kp.mono kp_28 (by decide))) (Kp.mono kp_31 (by decide))) (Kp.mono kp_34 (by decide))) (Kp.mono kp_37 (by decide))) (Kp.mono kp_40 (by decide))) (Kp.mono kp_41 (by decide))) (Kp.mono kp_44 (by decide))) (Kp.mono kp_46 (by decide))) (Kp.mono kp_48 (by decide))) (Kp.mono kp_49 (by decide))) (Kp.mono kp_52 (by decide))) (Kp.mono kp_53 (by decide)))⟩
      · rw [if_neg hb_49]
        refine T_eq (pc' := 244) (L' := [(0, .ref 373), (1, .int (nI 16))]) (st' := [.int (nI 0)]) (M' := M_49) rfl rfl rfl rfl ?_
        refine N_if_eq_t (b := 0) d_Mo_code_244 (tgt := 256) rfl (by omega) (by omega) ?_
        refine T_aload_n (v := .ref 373) d_Mo_code_256 rfl (Or.inr ⟨_, rfl⟩) ?_
        refine T_bipush (v := nI 29) d_Mo_code_257 (by decide) ?_
        have r_54 := (ke_49 29 (by decide)).trans (vr_48)
        refine T_virtual (as := [.int (nI 29)]) (rest := []) (b := 373) d_Mo_code_259 rfl (jw_Mo_pack.jo (by decide)) lm_Mo_149 ji_Mo_pack js_Mo_pack hE_49.ob rfl rfl rfl (Nat.le_of_ble_eq_true rfl) (by decide) (by decide) (u_Mo_pack hE_49 (by decide) r_54) (fun r M_55 hq => ?_)
        obtain ⟨rfl, pk_55, E_55, hE_55, ke_55, kp_55⟩ := hq
        refine T_eq (pc' := 262) (L' := [(0, .ref 373), (1, .int (nI 16))]) (st' := []) (M' := M_55) rfl rfl rfl rfl ?_
        have a20 : ph x_6 = cAq (ph Y) (ph Z) := by rw [hx_6, ph_mul, hx_4, ph_sub, hx_1, ph_add]; rfl
        have a21 : ph x_9 = ph X * ph Y := by rw [hx_9, ph_mul]
        have aR : ph x_16 = cR (ph X) (ph Y) (ph Z) := by rw [hx_16, ph_rt, ph_1, hx_12, ph_mul, hx_10, ph_mul, a20, a21]; rfl
        have aS : ph x_25 = cS (ph X) (ph Y) (ph Z) (ph T) := by
          rw [hx_25, ph_mul, hx_23, ph_mul, hx_21, ph_mul, hx_18, ph_mul, aR, a20, a21]; unfold cS; grind -lia -linarith
        have t1 : ph x_27 = ph x_25 * ph T := by rw [hx_27, ph_mul, Lean.Grind.CommSemiring.mul_comm]
        have he : ph x_31 = ph Y * fI := by rw [hx_31, ph_mul, ph_cI, Lean.Grind.CommSemiring.mul_comm]
        have hf : ph x_34 = ph X * fI := by rw [hx_34, ph_mul, ph_cI, Lean.Grind.CommSemiring.mul_comm]
        have hg : ph x_37 = cAq (ph Y) (ph Z) * cR (ph X) (ph Y) (ph Z) * fE := by rw [hx_37, ph_mul, ph_cE, hx_18, ph_mul, aR, a20]; grind -lia -linarith
        have t2 : ph x_40 = ph x_31 * ph x_25 := by rw [hx_40, ph_mul]
        have hq : ph x_48 = (ph Z - ph x_44) * ph x_37 := by rw [hx_48, ph_mul, hx_46, ph_sub, Lean.Grind.CommSemiring.mul_comm]
        have hc : ph x_48 = cF (ph X) (ph Y) (ph Z) (ph T) := by
          refine cF_of (S := ph x_25) (e := ph x_31) (f := ph x_34) (g := ph x_37) (f' := ph x_44) (q := ph x_48) aS ?_ ?_ hq ?_
          · exact Or.inl ⟨(od_of t1).mpr hb_28, he, hf, hg⟩
          · exact Or.inl ⟨(od_of t2).mpr hb_41, by rw [hx_44, ph_zs]⟩
          · exact Or.inr ⟨fun z => hb_49 (od_ph.mp z), rfl⟩
        exact T_vret d_Mo_code_262 rfl (by decide) (by decide) ⟨rfl, ⟨_, pk_55, hc⟩, _, hE_55, (KE.tr (KE.tr (KE.tr (KE.tr (KE.tr (KE.tr (KE.tr (KE.tr (KE.tr (KE.tr (KE.tr (KE.tr (KE.tr (KE.tr (KE.tr (KE.tr (KE.tr (KE.tr (KE.tr (KE.tr (KE.tr (KE.tr (KE.tr (KE.rf : KE [20, 21, 22, 23, 24, 25, 26, 27, 28, 29, 50, 51, 52, 53, 54, 55, 56, 61, 62, 63] E E) (KE.mono ke_1 (by decide))) (KE.mono ke_4 (by decide))) (KE.mono ke_6 (by decide))) (KE.mono ke_9 (by decide))) (KE.mono ke_10 (by decide))) (KE.mono ke_12 (by decide))) (KE.mono ke_16 (by decide))) (KE.mono ke_18 (by decide))) (KE.mono ke_21 (by decide))) (KE.mono ke_23 (by decide))) (KE.mono ke_25 (by decide))) (KE.mono ke_27 (by decide))) (KE.mono ke_28 (by decide))) (KE.mono ke_31 (by decide))) (KE.mono ke_34 (by decide))) (KE.mono ke_37 (by decide))) (KE.mono ke_40 (by decide))) (KE.mono ke_41 (by decide))) (KE.mono ke_44 (by decide))) (KE.mono ke_46 (by decide))) (KE.mono ke_48 (by decide))) (KE.mono ke_49 (by decide))) (KE.mono ke_55 (by decide))), (Kp.tr (Kp.tr (Kp.tr (Kp.tr (Kp.tr (Kp.tr (Kp.tr (Kp.tr (Kp.tr (Kp.tr (Kp.tr (Kp.tr (Kp.tr (Kp.tr (Kp.tr (Kp.tr (Kp.tr (Kp.tr (Kp.tr (Kp.tr (Kp.tr (Kp.tr (Kp.tr (Kp.rf : Kp [390, 391, 392, 393, 394] M M) (Kp.mono kp_1 (by decide))) (Kp.mono kp_4 (by decide))) (Kp.mono kp_6 (by decide))) (Kp.mono kp_9 (by decide))) (Kp.mono kp_10 (by decide))) (Kp.mono kp_12 (by decide))) (Kp.mono kp_16 (by decide))) (Kp.mono kp_18 (by decide))) (Kp.mono kp_21 (by decide))) (Kp.mono kp_23 (by decide))) (Kp.mono kp_25 (by decide))) (Kp.mono kp_27 (by decide))) (Kp.mono kp_28 (by decide))) (Kp.mono kp_31 (by decide))) (Kp.mono kp_34 (by decide))) (Kp.mono kp_37 (by decide))) (Kp.mono kp_40 (by decide))) (Kp.mono kp_41 (by decide))) (Kp.mono kp_44 (by decide))) (Kp.mono kp_46 (by decide))) (Kp.mono kp_48 (by decide))) (Kp.mono kp_49 (by decide))) (Kp.mono kp_55 (by decide)))⟩
    · rw [if_neg hb_41]
      refine T_eq (pc' := 205) (L' := [(0, .ref 373), (1, .int (nI 16))]) (st' := [.int (nI 0)]) (M' := M_41) rfl rfl rfl rfl ?_
      refine N_if_eq_t (b := 0) d_Mo_code_205 (tgt := 217) rfl (by omega) (by omega) ?_
      refine T_aload_n (v := .ref 373) d_Mo_code_217 rfl (Or.inr ⟨_, rfl⟩) ?_
      refine T_bipush (v := nI 28) d_Mo_code_218 (by decide) ?_
      refine T_iload_n d_Mo_code_220 rfl ?_
      refine T_iconst (v := nI 2) d_Mo_code_221 (by decide) ?_
      refine N_iadd (a := 2) (b := 16) (c := 18) d_Mo_code_222 rfl ?_
      refine T_bipush (v := nI 28) d_Mo_code_223 (by decide) ?_
      have r_56 := (ke_41 18 (by decide)).trans ((ke_40 18 (by decide)).trans ((ke_37 18 (by decide)).trans ((ke_34 18 (by decide)).trans ((ke_31 18 (by decide)).trans ((ke_28 18 (by decide)).trans ((ke_27 18 (by decide)).trans ((ke_25 18 (by decide)).trans ((ke_23 18 (by decide)).trans ((ke_21 18 (by decide)).trans ((ke_18 18 (by decide)).trans ((ke_16 18 (by decide)).trans ((ke_12 18 (by decide)).trans ((ke_10 18 (by decide)).trans ((ke_9 18 (by decide)).trans ((ke_6 18 (by decide)).trans ((ke_4 18 (by decide)).trans (r_2)))))))))))))))))
      have r_57 := (ke_41 28 (by decide)).trans ((ke_40 28 (by decide)).trans ((ke_37 28 (by decide)).trans (vr_34)))
      refine T_virtual (as := [.int (nI 28), .int (nI 18), .int (nI 28)]) (rest := []) (b := 373) d_Mo_code_225 rfl (jw_Mo_sub.jo (by decide)) lm_Mo_152 ji_Mo_sub js_Mo_sub hE_41.ob rfl rfl rfl (Nat.le_of_ble_eq_true rfl) (by decide) (by decide) (u_Mo_sub hE_41 (by decide) (by decide) (by decide) r_56 r_57) (fun r M_58 hq => ?_)
      obtain ⟨rfl, E_58, hE_58, vr_58, ke_58, kp_58⟩ := hq
      obtain ⟨x_58, hx_58⟩ : ∃ z : Int, z = (Z - x_34) := ⟨_, rfl⟩
      rw [← hx_58] at vr_58
      refine T_eq (pc' := 228) (L' := [(0, .ref 373), (1, .int (nI 16))]) (st' := []) (M' := M_58) rfl rfl rfl rfl ?_
      refine T_aload_n (v := .ref 373) d_Mo_code_228 rfl (Or.inr ⟨_, rfl⟩) ?_
      refine T_bipush (v := nI 29) d_Mo_code_229 (by decide) ?_
      refine T_bipush (v := nI 29) d_Mo_code_231 (by decide) ?_
      refine T_bipush (v := nI 28) d_Mo_code_233 (by decide) ?_
      have r_59 := (ke_58 29 (by decide)).trans ((ke_41 29 (by decide)).trans ((ke_40 29 (by decide)).trans (vr_37)))
      refine T_virtual (as := [.int (nI 29), .int (nI 29), .int (nI 28)]) (rest := []) (b := 373) d_Mo_code_235 rfl (jw_Mo_mul.jo (by decide)) lm_Mo_163 ji_Mo_mul js_Mo_mul hE_58.ob rfl rfl rfl (Nat.le_of_ble_eq_true rfl) (by decide) (by decide) (u_Mo_mul hE_58 (by decide) (by decide) (by decide) r_59 vr_58) (fun r M_60 hq => ?_)
      obtain ⟨rfl, E_60, hE_60, vr_60, ke_60, kp_60⟩ := hq
      obtain ⟨x_60, hx_60⟩ : ∃ z : Int, z = (x_37 * x_58) := ⟨_, rfl⟩
      rw [← hx_60] at vr_60
      refine T_eq (pc' := 238) (L' := [(0, .ref 373), (1, .int (nI 16))]) (st' := []) (M' := M_60) rfl rfl rfl rfl ?_
      refine T_aload_n (v := .ref 373) d_Mo_code_238 rfl (Or.inr ⟨_, rfl⟩) ?_
      refine T_bipush (v := nI 29) d_Mo_code_239 (by decide) ?_
      refine T_virtual (as := [.int (nI 29)]) (rest := []) (b := 373) d_Mo_code_241 rfl (jw_Mo_odd.jo (by decide)) lm_Mo_174 ji_Mo_odd js_Mo_odd hE_60.ob rfl rfl rfl (Nat.le_of_ble_eq_true rfl) (by decide) (by decide) (u_Mo_odd hE_60 (by decide) vr_60) (fun r M_61 hq => ?_)
      obtain ⟨rfl, pk_61, E_61, hE_61, ke_61, kp_61⟩ := hq
      by_cases hb_61 : (x_60 % pP) % 2 = 1
      · rw [if_pos hb_61]
        refine T_eq (pc' := 244) (L' := [(0, .ref 373), (1, .int (nI 16))]) (st' := [.int (nI 1)]) (M' := M_61) rfl rfl rfl rfl ?_
        refine N_if_eq_f (b := 1) d_Mo_code_244 (tgt := 256) rfl (by omega) (by omega) ?_
        refine T_aload_n (v := .ref 373) d_Mo_code_247 rfl (Or.inr ⟨_, rfl⟩) ?_
        refine T_bipush (v := nI 29) d_Mo_code_248 (by decide) ?_
        refine T_iconst (v := nI 0) d_Mo_code_250 (by decide) ?_
        refine T_bipush (v := nI 29) d_Mo_code_251 (by decide) ?_
        have r_62 := (ke_61 0 (by decide)).trans ((ke_60 0 (by decide)).trans ((ke_58 0 (by decide)).trans ((ke_41 0 (by decide)).trans ((ke_40 0 (by decide)).trans ((ke_37 0 (by decide)).trans ((ke_34 0 (by decide)).trans ((ke_31 0 (by decide)).trans ((ke_28 0 (by decide)).trans ((ke_27 0 (by decide)).trans ((ke_25 0 (by decide)).trans ((ke_23 0 (by decide)).trans ((ke_21 0 (by decide)).trans ((ke_18 0 (by decide)).trans ((ke_16 0 (by decide)).trans (r_14)))))))))))))))
        have r_63 := (ke_61 29 (by decide)).trans (vr_60)
        refine T_virtual (as := [.int (nI 29), .int (nI 0), .int (nI 29)]) (rest := []) (b := 373) d_Mo_code_253 rfl (jw_Mo_sub.jo (by decide)) lm_Mo_152 ji_Mo_sub js_Mo_sub hE_61.ob rfl rfl rfl (Nat.le_of_ble_eq_true rfl) (by decide) (by decide) (u_Mo_sub hE_61 (by decide) (by decide) (by decide) r_62 r_63) (fun r M_64 hq => ?_)
        obtain ⟨rfl, E_64, hE_64, vr_64, ke_64, kp_64⟩ := hq
        obtain ⟨x_64, hx_64⟩ : ∃ z : Int, z = (0 - x_60) := ⟨_, rfl⟩
        rw [← hx_64] at vr_64
        refine T_eq (pc' := 256) (L' := [(0, .ref 373), (1, .int (nI 16))]) (st' := []) (M' := M_64) rfl rfl rfl rfl ?_
        refine T_aload_n (v := .ref 373) d_Mo_code_256 rfl (Or.inr ⟨_, rfl⟩) ?_
        refine T_bipush (v := nI 29) d_Mo_code_257 (by decide) ?_
        refine T_virtual (as := [.int (nI 29)]) (rest := []) (b := 373) d_Mo_code_259 rfl (jw_Mo_pack.jo (by decide)) lm_Mo_149 ji_Mo_pack js_Mo_pack hE_64.ob rfl rfl rfl (Nat.le_of_ble_eq_true rfl) (by decide) (by decide) (u_Mo_pack hE_64 (by decide) vr_64) (fun r M_65 hq => ?_)
        obtain ⟨rfl, pk_65, E_65, hE_65, ke_65, kp_65⟩ := hq
        refine T_eq (pc' := 262) (L' := [(0, .ref 373), (1, .int (nI 16))]) (st' := []) (M' := M_65) rfl rfl rfl rfl ?_
        have a20 : ph x_6 = cAq (ph Y) (ph Z) := by rw [hx_6, ph_mul, hx_4, ph_sub, hx_1, ph_add]; rfl
        have a21 : ph x_9 = ph X * ph Y := by rw [hx_9, ph_mul]
        have aR : ph x_16 = cR (ph X) (ph Y) (ph Z) := by rw [hx_16, ph_rt, ph_1, hx_12, ph_mul, hx_10, ph_mul, a20, a21]; rfl
        have aS : ph x_25 = cS (ph X) (ph Y) (ph Z) (ph T) := by
          rw [hx_25, ph_mul, hx_23, ph_mul, hx_21, ph_mul, hx_18, ph_mul, aR, a20, a21]; unfold cS; grind -lia -linarith
        have t1 : ph x_27 = ph x_25 * ph T := by rw [hx_27, ph_mul, Lean.Grind.CommSemiring.mul_comm]
        have he : ph x_31 = ph Y * fI := by rw [hx_31, ph_mul, ph_cI, Lean.Grind.CommSemiring.mul_comm]
        have hf : ph x_34 = ph X * fI := by rw [hx_34, ph_mul, ph_cI, Lean.Grind.CommSemiring.mul_comm]
        have hg : ph x_37 = cAq (ph Y) (ph Z) * cR (ph X) (ph Y) (ph Z) * fE := by rw [hx_37, ph_mul, ph_cE, hx_18, ph_mul, aR, a20]; grind -lia -linarith
        have t2 : ph x_40 = ph x_31 * ph x_25 := by rw [hx_40, ph_mul]
        have hq : ph x_60 = (ph Z - ph x_34) * ph x_37 := by rw [hx_60, ph_mul, hx_58, ph_sub, Lean.Grind.CommSemiring.mul_comm]
        have hc : ph x_64 = cF (ph X) (ph Y) (ph Z) (ph T) := by
          refine cF_of (S := ph x_25) (e := ph x_31) (f := ph x_34) (g := ph x_37) (f' := ph x_34) (q := ph x_60) aS ?_ ?_ hq ?_
          · exact Or.inl ⟨(od_of t1).mpr hb_28, he, hf, hg⟩
          · exact Or.inr ⟨fun z => hb_41 ((od_of t2).mp z), rfl⟩
          · exact Or.inl ⟨od_ph.mpr hb_61, by rw [hx_64, ph_zs]⟩
        exact T_vret d_Mo_code_262 rfl (by decide) (by decide) ⟨rfl, ⟨_, pk_65, hc⟩, _, hE_65, (KE.tr (KE.tr (KE.tr (KE.tr (KE.tr (KE.tr (KE.tr (KE.tr (KE.tr (KE.tr (KE.tr (KE.tr (KE.tr (KE.tr (KE.tr (KE.tr (KE.tr (KE.tr (KE.tr (KE.tr (KE.tr (KE.tr (KE.tr (KE.rf : KE [20, 21, 22, 23, 24, 25, 26, 27, 28, 29, 50, 51, 52, 53, 54, 55, 56, 61, 62, 63] E E) (KE.mono ke_1 (by decide))) (KE.mono ke_4 (by decide))) (KE.mono ke_6 (by decide))) (KE.mono ke_9 (by decide))) (KE.mono ke_10 (by decide))) (KE.mono ke_12 (by decide))) (KE.mono ke_16 (by decide))) (KE.mono ke_18 (by decide))) (KE.mono ke_21 (by decide))) (KE.mono ke_23 (by decide))) (KE.mono ke_25 (by decide))) (KE.mono ke_27 (by decide))) (KE.mono ke_28 (by decide))) (KE.mono ke_31 (by decide))) (KE.mono ke_34 (by decide))) (KE.mono ke_37 (by decide))) (KE.mono ke_40 (by decide))) (KE.mono ke_41 (by decide))) (KE.mono ke_58 (by decide))) (KE.mono ke_60 (by decide))) (KE.mono ke_61 (by decide))) (KE.mono ke_64 (by decide))) (KE.mono ke_65 (by decide))), (Kp.tr (Kp.tr (Kp.tr (Kp.tr (Kp.tr (Kp.tr (Kp.tr (Kp.tr (Kp.tr (Kp.tr (Kp.tr (Kp.tr (Kp.tr (Kp.tr (Kp.tr (Kp.tr (Kp.tr (Kp.tr (Kp.tr (Kp.tr (Kp.tr (Kp.tr (Kp.tr (Kp.rf : Kp [390, 391, 392, 393, 394] M M) (Kp.mono kp_1 (by decide))) (Kp.mono kp_4 (by decide))) (Kp.mono kp_6 (by decide))) (Kp.mono kp_9 (by decide))) (Kp.mono kp_10 (by decide))) (Kp.mono kp_12 (by decide))) (Kp.mono kp_16 (by decide))) (Kp.mono kp_18 (by decide))) (Kp.mono kp_21 (by decide))) (Kp.mono kp_23 (by decide))) (Kp.mono kp_25 (by decide))) (Kp.mono kp_27 (by decide))) (Kp.mono kp_28 (by decide))) (Kp.mono kp_31 (by decide))) (Kp.mono kp_34 (by decide))) (Kp.mono kp_37 (by decide))) (Kp.mono kp_40 (by decide))) (Kp.mono kp_41 (by decide))) (Kp.mono kp_58 (by decide))) (Kp.mono kp_60 (by decide))) (Kp.mono kp_61 (by decide))) (Kp.mono kp_64 (by decide))) (Kp.mono kp_65 (by decide)))⟩
      · rw [if_neg hb_61]
        refine T_eq (pc' := 244) (L' := [(0, .ref 373), (1, .int (nI 16))]) (st' := [.int (nI 0)]) (M' := M_61) rfl rfl rfl rfl ?_
        refine N_if_eq_t (b := 0) d_Mo_code_244 (tgt := 256) rfl (by omega) (by omega) ?_
        refine T_aload_n (v := .ref 373) d_Mo_code_256 rfl (Or.inr ⟨_, rfl⟩) ?_
        refine T_bipush (v := nI 29) d_Mo_code_257 (by decide) ?_
        have r_66 := (ke_61 29 (by decide)).trans (vr_60)
        refine T_virtual (as := [.int (nI 29)]) (rest := []) (b := 373) d_Mo_code_259 rfl (jw_Mo_pack.jo (by decide)) lm_Mo_149 ji_Mo_pack js_Mo_pack hE_61.ob rfl rfl rfl (Nat.le_of_ble_eq_true rfl) (by decide) (by decide) (u_Mo_pack hE_61 (by decide) r_66) (fun r M_67 hq => ?_)
        obtain ⟨rfl, pk_67, E_67, hE_67, ke_67, kp_67⟩ := hq
        refine T_eq (pc' := 262) (L' := [(0, .ref 373), (1, .int (nI 16))]) (st' := []) (M' := M_67) rfl rfl rfl rfl ?_
        have a20 : ph x_6 = cAq (ph Y) (ph Z) := by rw [hx_6, ph_mul, hx_4, ph_sub, hx_1, ph_add]; rfl
        have a21 : ph x_9 = ph X * ph Y := by rw [hx_9, ph_mul]
        have aR : ph x_16 = cR (ph X) (ph Y) (ph Z) := by rw [hx_16, ph_rt, ph_1, hx_12, ph_mul, hx_10, ph_mul, a20, a21]; rfl
        have aS : ph x_25 = cS (ph X) (ph Y) (ph Z) (ph T) := by
          rw [hx_25, ph_mul, hx_23, ph_mul, hx_21, ph_mul, hx_18, ph_mul, aR, a20, a21]; unfold cS; grind -lia -linarith
        have t1 : ph x_27 = ph x_25 * ph T := by rw [hx_27, ph_mul, Lean.Grind.CommSemiring.mul_comm]
        have he : ph x_31 = ph Y * fI := by rw [hx_31, ph_mul, ph_cI, Lean.Grind.CommSemiring.mul_comm]
        have hf : ph x_34 = ph X * fI := by rw [hx_34, ph_mul, ph_cI, Lean.Grind.CommSemiring.mul_comm]
        have hg : ph x_37 = cAq (ph Y) (ph Z) * cR (ph X) (ph Y) (ph Z) * fE := by rw [hx_37, ph_mul, ph_cE, hx_18, ph_mul, aR, a20]; grind -lia -linarith
        have t2 : ph x_40 = ph x_31 * ph x_25 := by rw [hx_40, ph_mul]
        have hq : ph x_60 = (ph Z - ph x_34) * ph x_37 := by rw [hx_60, ph_mul, hx_58, ph_sub, Lean.Grind.CommSemiring.mul_comm]
        have hc : ph x_60 = cF (ph X) (ph Y) (ph Z) (ph T) := by
          refine cF_of (S := ph x_25) (e := ph x_31) (f := ph x_34) (g := ph x_37) (f' := ph x_34) (q := ph x_60) aS ?_ ?_ hq ?_
          · exact Or.inl ⟨(od_of t1).mpr hb_28, he, hf, hg⟩
          · exact Or.inr ⟨fun z => hb_41 ((od_of t2).mp z), rfl⟩
          · exact Or.inr ⟨fun z => hb_61 (od_ph.mp z), rfl⟩
        exact T_vret d_Mo_code_262 rfl (by decide) (by decide) ⟨rfl, ⟨_, pk_67, hc⟩, _, hE_67, (KE.tr (KE.tr (KE.tr (KE.tr (KE.tr (KE.tr (KE.tr (KE.tr (KE.tr (KE.tr (KE.tr (KE.tr (KE.tr (KE.tr (KE.tr (KE.tr (KE.tr (KE.tr (KE.tr (KE.tr (KE.tr (KE.tr (KE.rf : KE [20, 21, 22, 23, 24, 25, 26, 27, 28, 29, 50, 51, 52, 53, 54, 55, 56, 61, 62, 63] E E) (KE.mono ke_1 (by decide))) (KE.mono ke_4 (by decide))) (KE.mono ke_6 (by decide))) (KE.mono ke_9 (by decide))) (KE.mono ke_10 (by decide))) (KE.mono ke_12 (by decide))) (KE.mono ke_16 (by decide))) (KE.mono ke_18 (by decide))) (KE.mono ke_21 (by decide))) (KE.mono ke_23 (by decide))) (KE.mono ke_25 (by decide))) (KE.mono ke_27 (by decide))) (KE.mono ke_28 (by decide))) (KE.mono ke_31 (by decide))) (KE.mono ke_34 (by decide))) (KE.mono ke_37 (by decide))) (KE.mono ke_40 (by decide))) (KE.mono ke_41 (by decide))) (KE.mono ke_58 (by decide))) (KE.mono ke_60 (by decide))) (KE.mono ke_61 (by decide))) (KE.mono ke_67 (by decide))), (Kp.tr (Kp.tr (Kp.tr (Kp.tr (Kp.tr (Kp.tr (Kp.tr (Kp.tr (Kp.tr (Kp.tr (Kp.tr (Kp.tr (Kp.tr (Kp.tr (Kp.tr (Kp.tr (Kp.tr (Kp.tr (Kp.tr (Kp.tr (Kp.tr (Kp.tr (Kp.rf : Kp [390, 391, 392, 393, 394] M M) (Kp.mono kp_1 (by decide))) (Kp.mono kp_4 (by decide))) (Kp.mono kp_6 (by decide))) (Kp.mono kp_9 (by decide))) (Kp.mono kp_10 (by decide))) (Kp.mono kp_12 (by decide))) (Kp.mono kp_16 (by decide))) (Kp.mono kp_18 (by decide))) (Kp.mono kp_21 (by decide))) (Kp.mono kp_23 (by decide))) (Kp.mono kp_25 (by decide))) (Kp.mono kp_27 (by decide))) (Kp.mono kp_28 (by decide))) (Kp.mono kp_31 (by decide))) (Kp.mono kp_34 (by decide))) (Kp.mono kp_37 (by decide))) (Kp.mono kp_40 (by decide))) (Kp.mono kp_41 (by decide))) (Kp.mono kp_58 (by decide))) (Kp.mono kp_60 (by decide))) (Kp.mono kp_61 (by decide))) (Kp.mono kp_67 (by decide)))⟩
  · rw [if_neg hb_28]
    refine T_eq (pc' := 132) (L' := [(0, .ref 373), (1, .int (nI 16))]) (st' := [.int (nI 0)]) (M' := M_28) rfl rfl rfl rfl ?_
    refine N_if_eq_t (b := 0) d_Mo_code_132 (tgt := 165) rfl (by omega) (by omega) ?_
    refine T_aload_n (v := .ref 373) d_Mo_code_165 rfl (Or.inr ⟨_, rfl⟩) ?_
    refine T_bipush (v := nI 27) d_Mo_code_166 (by decide) ?_
    refine T_iload_n d_Mo_code_168 rfl ?_
    have r_68 := (ke_28 16 (by decide)).trans ((ke_27 16 (by decide)).trans ((ke_25 16 (by decide)).trans ((ke_23 16 (by decide)).trans ((ke_21 16 (by decide)).trans ((ke_18 16 (by decide)).trans ((ke_16 16 (by decide)).trans ((ke_12 16 (by decide)).trans ((ke_10 16 (by decide)).trans ((ke_9 16 (by decide)).trans (r_7))))))))))
    refine T_virtual (as := [.int (nI 27), .int (nI 16)]) (rest := []) (b := 373) d_Mo_code_169 rfl (jw_Mo_set.jo (by decide)) lm_Mo_160 ji_Mo_set js_Mo_set hE_28.ob rfl rfl rfl (Nat.le_of_ble_eq_true rfl) (by decide) (by decide) (u_Mo_set hE_28 (by decide) (by decide) r_68) (fun r M_69 hq => ?_)
    obtain ⟨rfl, E_69, hE_69, vr_69, ke_69, kp_69⟩ := hq
    obtain ⟨x_69, hx_69⟩ : ∃ z : Int, z = X := ⟨_, rfl⟩
    rw [← hx_69] at vr_69
    refine T_eq (pc' := 172) (L' := [(0, .ref 373), (1, .int (nI 16))]) (st' := []) (M' := M_69) rfl rfl rfl rfl ?_
    refine T_aload_n (v := .ref 373) d_Mo_code_172 rfl (Or.inr ⟨_, rfl⟩) ?_
    refine T_bipush (v := nI 28) d_Mo_code_173 (by decide) ?_
    refine T_iload_n d_Mo_code_175 rfl ?_
    refine T_iconst (v := nI 1) d_Mo_code_176 (by decide) ?_
    refine N_iadd (a := 1) (b := 16) (c := 17) d_Mo_code_177 rfl ?_
    have r_70 := (ke_69 17 (by decide)).trans ((ke_28 17 (by decide)).trans ((ke_27 17 (by decide)).trans ((ke_25 17 (by decide)).trans ((ke_23 17 (by decide)).trans ((ke_21 17 (by decide)).trans ((ke_18 17 (by decide)).trans ((ke_16 17 (by decide)).trans ((ke_12 17 (by decide)).trans ((ke_10 17 (by decide)).trans ((ke_9 17 (by decide)).trans (r_8)))))))))))
    refine T_virtual (as := [.int (nI 28), .int (nI 17)]) (rest := []) (b := 373) d_Mo_code_178 rfl (jw_Mo_set.jo (by decide)) lm_Mo_160 ji_Mo_set js_Mo_set hE_69.ob rfl rfl rfl (Nat.le_of_ble_eq_true rfl) (by decide) (by decide) (u_Mo_set hE_69 (by decide) (by decide) r_70) (fun r M_71 hq => ?_)
    obtain ⟨rfl, E_71, hE_71, vr_71, ke_71, kp_71⟩ := hq
    obtain ⟨x_71, hx_71⟩ : ∃ z : Int, z = Y := ⟨_, rfl⟩
    rw [← hx_71] at vr_71
    refine T_eq (pc' := 181) (L' := [(0, .ref 373), (1, .int (nI 16))]) (st' := []) (M' := M_71) rfl rfl rfl rfl ?_
    refine T_aload_n (v := .ref 373) d_Mo_code_181 rfl (Or.inr ⟨_, rfl⟩) ?_
    refine T_bipush (v := nI 29) d_Mo_code_182 (by decide) ?_
    refine T_bipush (v := nI 24) d_Mo_code_184 (by decide) ?_
    have r_72 := (ke_71 24 (by decide)).trans ((ke_69 24 (by decide)).trans ((ke_28 24 (by decide)).trans ((ke_27 24 (by decide)).trans ((ke_25 24 (by decide)).trans ((ke_23 24 (by decide)).trans (vr_21))))))
    refine T_virtual (as := [.int (nI 29), .int (nI 24)]) (rest := []) (b := 373) d_Mo_code_186 rfl (jw_Mo_set.jo (by decide)) lm_Mo_160 ji_Mo_set js_Mo_set hE_71.ob rfl rfl rfl (Nat.le_of_ble_eq_true rfl) (by decide) (by decide) (u_Mo_set hE_71 (by decide) (by decide) r_72) (fun r M_73 hq => ?_)
    obtain ⟨rfl, E_73, hE_73, vr_73, ke_73, kp_73⟩ := hq
    obtain ⟨x_73, hx_73⟩ : ∃ z : Int, z = x_21 := ⟨_, rfl⟩
    rw [← hx_73] at vr_73
    refine T_eq (pc' := 189) (L' := [(0, .ref 373), (1, .int (nI 16))]) (st' := []) (M' := M_73) rfl rfl rfl rfl ?_
    refine T_aload_n (v := .ref 373) d_Mo_code_189 rfl (Or.inr ⟨_, rfl⟩) ?_
    refine T_bipush (v := nI 26) d_Mo_code_190 (by decide) ?_
    refine T_bipush (v := nI 27) d_Mo_code_192 (by decide) ?_
    refine T_bipush (v := nI 25) d_Mo_code_194 (by decide) ?_
    have r_74 := (ke_73 27 (by decide)).trans ((ke_71 27 (by decide)).trans (vr_69))
    have r_75 := (ke_73 25 (by decide)).trans ((ke_71 25 (by decide)).trans ((ke_69 25 (by decide)).trans ((ke_28 25 (by decide)).trans ((ke_27 25 (by decide)).trans (vr_25)))))
    refine T_virtual (as := [.int (nI 26), .int (nI 27), .int (nI 25)]) (rest := []) (b := 373) d_Mo_code_196 rfl (jw_Mo_mul.jo (by decide)) lm_Mo_163 ji_Mo_mul js_Mo_mul hE_73.ob rfl rfl rfl (Nat.le_of_ble_eq_true rfl) (by decide) (by decide) (u_Mo_mul hE_73 (by decide) (by decide) (by decide) r_74 r_75) (fun r M_76 hq => ?_)
    obtain ⟨rfl, E_76, hE_76, vr_76, ke_76, kp_76⟩ := hq
    obtain ⟨x_76, hx_76⟩ : ∃ z : Int, z = (x_69 * x_25) := ⟨_, rfl⟩
    rw [← hx_76] at vr_76
    refine T_eq (pc' := 199) (L' := [(0, .ref 373), (1, .int (nI 16))]) (st' := []) (M' := M_76) rfl rfl rfl rfl ?_
    refine T_aload_n (v := .ref 373) d_Mo_code_199 rfl (Or.inr ⟨_, rfl⟩) ?_
    refine T_bipush (v := nI 26) d_Mo_code_200 (by decide) ?_
    refine T_virtual (as := [.int (nI 26)]) (rest := []) (b := 373) d_Mo_code_202 rfl (jw_Mo_odd.jo (by decide)) lm_Mo_174 ji_Mo_odd js_Mo_odd hE_76.ob rfl rfl rfl (Nat.le_of_ble_eq_true rfl) (by decide) (by decide) (u_Mo_odd hE_76 (by decide) vr_76) (fun r M_77 hq => ?_)
    obtain ⟨rfl, pk_77, E_77, hE_77, ke_77, kp_77⟩ := hq
    by_cases hb_77 : (x_76 % pP) % 2 = 1
    · rw [if_pos hb_77]
      refine T_eq (pc' := 205) (L' := [(0, .ref 373), (1, .int (nI 16))]) (st' := [.int (nI 1)]) (M' := M_77) rfl rfl rfl rfl ?_
      refine N_if_eq_f (b := 1) d_Mo_code_205 (tgt := 217) rfl (by omega) (by omega) ?_
      refine T_aload_n (v := .ref 373) d_Mo_code_208 rfl (Or.inr ⟨_, rfl⟩) ?_
      refine T_bipush (v := nI 28) d_Mo_code_209 (by decide) ?_
      refine T_iconst (v := nI 0) d_Mo_code_211 (by decide) ?_
      refine T_bipush (v := nI 28) d_Mo_code_212 (by decide) ?_
      have r_78 := (ke_77 0 (by decide)).trans ((ke_76 0 (by decide)).trans ((ke_73 0 (by decide)).trans ((ke_71 0 (by decide)).trans ((ke_69 0 (by decide)).trans ((ke_28 0 (by decide)).trans ((ke_27 0 (by decide)).trans ((ke_25 0 (by decide)).trans ((ke_23 0 (by decide)).trans ((ke_21 0 (by decide)).trans ((ke_18 0 (by decide)).trans ((ke_16 0 (by decide)).trans (r_14))))))))))))
      have r_79 := (ke_77 28 (by decide)).trans ((ke_76 28 (by decide)).trans ((ke_73 28 (by decide)).trans (vr_71)))
      refine T_virtual (as := [.int (nI 28), .int (nI 0), .int (nI 28)]) (rest := []) (b := 373) d_Mo_code_214 rfl (jw_Mo_sub.jo (by decide)) lm_Mo_152 ji_Mo_sub js_Mo_sub hE_77.ob rfl rfl rfl (Nat.le_of_ble_eq_true rfl) (by decide) (by decide) (u_Mo_sub hE_77 (by decide) (by decide) (by decide) r_78 r_79) (fun r M_80 hq => ?_)
      obtain ⟨rfl, E_80, hE_80, vr_80, ke_80, kp_80⟩ := hq
      obtain ⟨x_80, hx_80⟩ : ∃ z : Int, z = (0 - x_71) := ⟨_, rfl⟩
      rw [← hx_80] at vr_80
      refine T_eq (pc' := 217) (L' := [(0, .ref 373), (1, .int (nI 16))]) (st' := []) (M' := M_80) rfl rfl rfl rfl ?_
      refine T_aload_n (v := .ref 373) d_Mo_code_217 rfl (Or.inr ⟨_, rfl⟩) ?_
      refine T_bipush (v := nI 28) d_Mo_code_218 (by decide) ?_
      refine T_iload_n d_Mo_code_220 rfl ?_
      refine T_iconst (v := nI 2) d_Mo_code_221 (by decide) ?_
      refine N_iadd (a := 2) (b := 16) (c := 18) d_Mo_code_222 rfl ?_
      refine T_bipush (v := nI 28) d_Mo_code_223 (by decide) ?_
      have r_81 := (ke_80 18 (by decide)).trans ((ke_77 18 (by decide)).trans ((ke_76 18 (by decide)).trans ((ke_73 18 (by decide)).trans ((ke_71 18 (by decide)).trans ((ke_69 18 (by decide)).trans ((ke_28 18 (by decide)).trans ((ke_27 18 (by decide)).trans ((ke_25 18 (by decide)).trans ((ke_23 18 (by decide)).trans ((ke_21 18 (by decide)).trans ((ke_18 18 (by decide)).trans ((ke_16 18 (by decide)).trans ((ke_12 18 (by decide)).trans ((ke_10 18 (by decide)).trans ((ke_9 18 (by decide)).trans ((ke_6 18 (by decide)).trans ((ke_4 18 (by decide)).trans (r_2))))))))))))))))))
      refine T_virtual (as := [.int (nI 28), .int (nI 18), .int (nI 28)]) (rest := []) (b := 373) d_Mo_code_225 rfl (jw_Mo_sub.jo (by decide)) lm_Mo_152 ji_Mo_sub js_Mo_sub hE_80.ob rfl rfl rfl (Nat.le_of_ble_eq_true rfl) (by decide) (by decide) (u_Mo_sub hE_80 (by decide) (by decide) (by decide) r_81 vr_80) (fun r M_82 hq => ?_)
      obtain ⟨rfl, E_82, hE_82, vr_82, ke_82, kp_82⟩ := hq
      obtain ⟨x_82, hx_82⟩ : ∃ z : Int, z = (Z - x_80) := ⟨_, rfl⟩
      rw [← hx_82] at vr_82
      refine T_eq (pc' := 228) (L' := [(0, .ref 373), (1, .int (nI 16))]) (st' := []) (M' := M_82) rfl rfl rfl rfl ?_
      refine T_aload_n (v := .ref 373) d_Mo_code_228 rfl (Or.inr ⟨_, rfl⟩) ?_
      refine T_bipush (v := nI 29) d_Mo_code_229 (by decide) ?_
      refine T_bipush (v := nI 29) d_Mo_code_231 (by decide) ?_
      refine T_bipush (v := nI 28) d_Mo_code_233 (by decide) ?_
      have r_83 := (ke_82 29 (by decide)).trans ((ke_80 29 (by decide)).trans ((ke_77 29 (by decide)).trans ((ke_76 29 (by decide)).trans (vr_73))))
      refine T_virtual (as := [.int (nI 29), .int (nI 29), .int (nI 28)]) (rest := []) (b := 373) d_Mo_code_235 rfl (jw_Mo_mul.jo (by decide)) lm_Mo_163 ji_Mo_mul js_Mo_mul hE_82.ob rfl rfl rfl (Nat.le_of_ble_eq_true rfl) (by decide) (by decide) (u_Mo_mul hE_82 (by decide) (by decide) (by decide) r_83 vr_82) (fun r M_84 hq => ?_)
      obtain ⟨rfl, E_84, hE_84, vr_84, ke_84, kp_84⟩ := hq
      obtain ⟨x_84, hx_84⟩ : ∃ z : Int, z = (x_73 * x_82) := ⟨_, rfl⟩
      rw [← hx_84] at vr_84
      refine T_eq (pc' := 238) (L' := [(0, .ref 373), (1, .int (nI 16))]) (st' := []) (M' := M_84) rfl rfl rfl rfl ?_
      refine T_aload_n (v := .ref 373) d_Mo_code_238 rfl (Or.inr ⟨_, rfl⟩) ?_
      refine T_bipush (v := nI 29) d_Mo_code_239 (by decide) ?_
      refine T_virtual (as := [.int (nI 29)]) (rest := []) (b := 373) d_Mo_code_241 rfl (jw_Mo_odd.jo (by decide)) lm_Mo_174 ji_Mo_odd js_Mo_odd hE_84.ob rfl rfl rfl (Nat.le_of_ble_eq_true rfl) (by decide) (by decide) (u_Mo_odd hE_84 (by decide) vr_84) (fun r M_85 hq => ?_)
      obtain ⟨rfl, pk_85, E_85, hE_85, ke_85, kp_85⟩ := hq
      by_cases hb_85 : (x_84 % pP) % 2 = 1
      · rw [if_pos hb_85]
        refine T_eq (pc' := 244) (L' := [(0, .ref 373), (1, .int (nI 16))]) (st' := [.int (nI 1)]) (M' := M_85) rfl rfl rfl rfl ?_
        refine N_if_eq_f (b := 1) d_Mo_code_244 (tgt := 256) rfl (by omega) (by omega) ?_
        refine T_aload_n (v := .ref 373) d_Mo_code_247 rfl (Or.inr ⟨_, rfl⟩) ?_
        refine T_bipush (v := nI 29) d_Mo_code_248 (by decide) ?_
        refine T_iconst (v := nI 0) d_Mo_code_250 (by decide) ?_
        refine T_bipush (v := nI 29) d_Mo_code_251 (by decide) ?_
        have r_86 := (ke_85 0 (by decide)).trans ((ke_84 0 (by decide)).trans ((ke_82 0 (by decide)).trans ((ke_80 0 (by decide)).trans (r_78))))
        have r_87 := (ke_85 29 (by decide)).trans (vr_84)
        refine T_virtual (as := [.int (nI 29), .int (nI 0), .int (nI 29)]) (rest := []) (b := 373) d_Mo_code_253 rfl (jw_Mo_sub.jo (by decide)) lm_Mo_152 ji_Mo_sub js_Mo_sub hE_85.ob rfl rfl rfl (Nat.le_of_ble_eq_true rfl) (by decide) (by decide) (u_Mo_sub hE_85 (by decide) (by decide) (by decide) r_86 r_87) (fun r M_88 hq => ?_)
        obtain ⟨rfl, E_88, hE_88, vr_88, ke_88, kp_88⟩ := hq
        obtain ⟨x_88, hx_88⟩ : ∃ z : Int, z = (0 - x_84) := ⟨_, rfl⟩
        rw [← hx_88] at vr_88
        refine T_eq (pc' := 256) (L' := [(0, .ref 373), (1, .int (nI 16))]) (st' := []) (M' := M_88) rfl rfl rfl rfl ?_
        refine T_aload_n (v := .ref 373) d_Mo_code_256 rfl (Or.inr ⟨_, rfl⟩) ?_
        refine T_bipush (v := nI 29) d_Mo_code_257 (by decide) ?_
        refine T_virtual (as := [.int (nI 29)]) (rest := []) (b := 373) d_Mo_code_259 rfl (jw_Mo_pack.jo (by decide)) lm_Mo_149 ji_Mo_pack js_Mo_pack hE_88.ob rfl rfl rfl (Nat.le_of_ble_eq_true rfl) (by decide) (by decide) (u_Mo_pack hE_88 (by decide) vr_88) (fun r M_89 hq => ?_)
        obtain ⟨rfl, pk_89, E_89, hE_89, ke_89, kp_89⟩ := hq
        refine T_eq (pc' := 262) (L' := [(0, .ref 373), (1, .int (nI 16))]) (st' := []) (M' := M_89) rfl rfl rfl rfl ?_
        have a20 : ph x_6 = cAq (ph Y) (ph Z) := by rw [hx_6, ph_mul, hx_4, ph_sub, hx_1, ph_add]; rfl
        have a21 : ph x_9 = ph X * ph Y := by rw [hx_9, ph_mul]
        have aR : ph x_16 = cR (ph X) (ph Y) (ph Z) := by rw [hx_16, ph_rt, ph_1, hx_12, ph_mul, hx_10, ph_mul, a20, a21]; rfl
        have aS : ph x_25 = cS (ph X) (ph Y) (ph Z) (ph T) := by
          rw [hx_25, ph_mul, hx_23, ph_mul, hx_21, ph_mul, hx_18, ph_mul, aR, a20, a21]; unfold cS; grind -lia -linarith
        have t1 : ph x_27 = ph x_25 * ph T := by rw [hx_27, ph_mul, Lean.Grind.CommSemiring.mul_comm]
        have he : ph x_69 = ph X := by rw [hx_69]
        have hf : ph x_71 = ph Y := by rw [hx_71]
        have hg : ph x_73 = ph X * ph Y * cR (ph X) (ph Y) (ph Z) := by rw [hx_73, hx_21, ph_mul, aR, a21]; grind -lia -linarith
        have t2 : ph x_76 = ph x_69 * ph x_25 := by rw [hx_76, ph_mul]
        have hq : ph x_84 = (ph Z - ph x_80) * ph x_73 := by rw [hx_84, ph_mul, hx_82, ph_sub, Lean.Grind.CommSemiring.mul_comm]
        have hc : ph x_88 = cF (ph X) (ph Y) (ph Z) (ph T) := by
          refine cF_of (S := ph x_25) (e := ph x_69) (f := ph x_71) (g := ph x_73) (f' := ph x_80) (q := ph x_84) aS ?_ ?_ hq ?_
          · exact Or.inr ⟨fun z => hb_28 ((od_of t1).mp z), he, hf, hg⟩
          · exact Or.inl ⟨(od_of t2).mpr hb_77, by rw [hx_80, ph_zs]⟩
          · exact Or.inl ⟨od_ph.mpr hb_85, by rw [hx_88, ph_zs]⟩
        exact T_vret d_Mo_code_262 rfl (by decide) (by decide) ⟨rfl, ⟨_, pk_89, hc⟩, _, hE_89, (KE.tr (KE.tr (KE.tr (KE.tr (KE.tr (KE.tr (KE.tr (KE.tr (KE.tr (KE.tr (KE.tr (KE.tr (KE.tr (KE.tr (KE.tr (KE.tr (KE.tr (KE.tr (KE.tr (KE.tr (KE.tr (KE.tr (KE.tr (KE.tr (KE.rf : KE [20, 21, 22, 23, 24, 25, 26, 27, 28, 29, 50, 51, 52, 53, 54, 55, 56, 61, 62, 63] E E) (KE.mono ke_1 (by decide))) (KE.mono ke_4 (by decide))) (KE.mono ke_6 (by decide))) (KE.mono ke_9 (by decide))) (KE.mono ke_10 (by decide))) (KE.mono ke_12 (by decide))) (KE.mono ke_16 (by decide))) (KE.mono ke_18 (by decide))) (KE.mono ke_21 (by decide))) (KE.mono ke_23 (by decide))) (KE.mono ke_25 (by decide))) (KE.mono ke_27 (by decide))) (KE.mono ke_28 (by decide))) (KE.mono ke_69 (by decide))) (KE.mono ke_71 (by decide))) (KE.mono ke_73 (by decide))) (KE.mono ke_76 (by decide))) (KE.mono ke_77 (by decide))) (KE.mono ke_80 (by decide))) (KE.mono ke_82 (by decide))) (KE.mono ke_84 (by decide))) (KE.mono ke_85 (by decide))) (KE.mono ke_88 (by decide))) (KE.mono ke_89 (by decide))), (Kp.tr (Kp.tr (Kp.tr (Kp.tr (Kp.tr (Kp.tr (Kp.tr (Kp.tr (Kp.tr (Kp.tr (Kp.tr (Kp.tr (Kp.tr (Kp.tr (Kp.tr (Kp.tr (Kp.tr (Kp.tr (Kp.tr (Kp.tr (Kp.tr (Kp.tr (Kp.tr (Kp.tr (Kp.rf : Kp [390, 391, 392, 393, 394] M M) (Kp.mono kp_1 (by decide))) (Kp.mono kp_4 (by decide))) (Kp.mono kp_6 (by decide))) (Kp.mono kp_9 (by decide))) (Kp.mono kp_10 (by decide))) (Kp.mono kp_12 (by decide))) (Kp.mono kp_16 (by decide))) (Kp.mono kp_18 (by decide))) (Kp.mono kp_21 (by decide))) (Kp.mono kp_23 (by decide))) (Kp.mono kp_25 (by decide))) (Kp.mono kp_27 (by decide))) (Kp.mono kp_28 (by decide))) (Kp.mono kp_69 (by decide))) (Kp.mono kp_71 (by decide))) (Kp.mono kp_73 (by decide))) (Kp.mono kp_76 (by decide))) (Kp.mono kp_77 (by decide))) (Kp.mono kp_80 (by decide))) (Kp.mono kp_82 (by decide))) (Kp.mono kp_84 (by decide))) (Kp.mono kp_85 (by decide))) (Kp.mono kp_88 (by decide))) (Kp.mono kp_89 (by decide)))⟩
      · rw [if_neg hb_85]
        refine T_eq (pc' := 244) (L' := [(0, .ref 373), (1, .int (nI 16))]) (st' := [.int (nI 0)]) (M' := M_85) rfl rfl rfl rfl ?_
        refine N_if_eq_t (b := 0) d_Mo_code_244 (tgt := 256) rfl (by omega) (by omega) ?_
        refine T_aload_n (v := .ref 373) d_Mo_code_256 rfl (Or.inr ⟨_, rfl⟩) ?_
        refine T_bipush (v := nI 29) d_Mo_code_257 (by decide) ?_
        have r_90 := (ke_85 29 (by decide)).trans (vr_84)
        refine T_virtual (as := [.int (nI 29)]) (rest := []) (b := 373) d_Mo_code_259 rfl (jw_Mo_pack.jo (by decide)) lm_Mo_149 ji_Mo_pack js_Mo_pack hE_85.ob rfl rfl rfl (Nat.le_of_ble_eq_true rfl) (by decide) (by decide) (u_Mo_pack hE_85 (by decide) r_90) (fun r M_91 hq => ?_)
        obtain ⟨rfl, pk_91, E_91, hE_91, ke_91, kp_91⟩ := hq
        refine T_eq (pc' := 262) (L' := [(0, .ref 373), (1, .int (nI 16))]) (st' := []) (M' := M_91) rfl rfl rfl rfl ?_
        have a20 : ph x_6 = cAq (ph Y) (ph Z) := by rw [hx_6, ph_mul, hx_4, ph_sub, hx_1, ph_add]; rfl
        have a21 : ph x_9 = ph X * ph Y := by rw [hx_9, ph_mul]
        have aR : ph x_16 = cR (ph X) (ph Y) (ph Z) := by rw [hx_16, ph_rt, ph_1, hx_12, ph_mul, hx_10, ph_mul, a20, a21]; rfl
        have aS : ph x_25 = cS (ph X) (ph Y) (ph Z) (ph T) := by
          rw [hx_25, ph_mul, hx_23, ph_mul, hx_21, ph_mul, hx_18, ph_mul, aR, a20, a21]; unfold cS; grind -lia -linarith
        have t1 : ph x_27 = ph x_25 * ph T := by rw [hx_27, ph_mul, Lean.Grind.CommSemiring.mul_comm]
        have he : ph x_69 = ph X := by rw [hx_69]
        have hf : ph x_71 = ph Y := by rw [hx_71]
        have hg : ph x_73 = ph X * ph Y * cR (ph X) (ph Y) (ph Z) := by rw [hx_73, hx_21, ph_mul, aR, a21]; grind -lia -linarith
        have t2 : ph x_76 = ph x_69 * ph x_25 := by rw [hx_76, ph_mul]
        have hq : ph x_84 = (ph Z - ph x_80) * ph x_73 := by rw [hx_84, ph_mul, hx_82, ph_sub, Lean.Grind.CommSemiring.mul_comm]
        have hc : ph x_84 = cF (ph X) (ph Y) (ph Z) (ph T) := by
          refine cF_of (S := ph x_25) (e := ph x_69) (f := ph x_71) (g := ph x_73) (f' := ph x_80) (q := ph x_84) aS ?_ ?_ hq ?_
          · exact Or.inr ⟨fun z => hb_28 ((od_of t1).mp z), he, hf, hg⟩
          · exact Or.inl ⟨(od_of t2).mpr hb_77, by rw [hx_80, ph_zs]⟩
          · exact Or.inr ⟨fun z => hb_85 (od_ph.mp z), rfl⟩
        exact T_vret d_Mo_code_262 rfl (by decide) (by decide) ⟨rfl, ⟨_, pk_91, hc⟩, _, hE_91, (KE.tr (KE.tr (KE.tr (KE.tr (KE.tr (KE.tr (KE.tr (KE.tr (KE.tr (KE.tr (KE.tr (KE.tr (KE.tr (KE.tr (KE.tr (KE.tr (KE.tr (KE.tr (KE.tr (KE.tr (KE.tr (KE.tr (KE.tr (KE.rf : KE [20, 21, 22, 23, 24, 25, 26, 27, 28, 29, 50, 51, 52, 53, 54, 55, 56, 61, 62, 63] E E) (KE.mono ke_1 (by decide))) (KE.mono ke_4 (by decide))) (KE.mono ke_6 (by decide))) (KE.mono ke_9 (by decide))) (KE.mono ke_10 (by decide))) (KE.mono ke_12 (by decide))) (KE.mono ke_16 (by decide))) (KE.mono ke_18 (by decide))) (KE.mono ke_21 (by decide))) (KE.mono ke_23 (by decide))) (KE.mono ke_25 (by decide))) (KE.mono ke_27 (by decide))) (KE.mono ke_28 (by decide))) (KE.mono ke_69 (by decide))) (KE.mono ke_71 (by decide))) (KE.mono ke_73 (by decide))) (KE.mono ke_76 (by decide))) (KE.mono ke_77 (by decide))) (KE.mono ke_80 (by decide))) (KE.mono ke_82 (by decide))) (KE.mono ke_84 (by decide))) (KE.mono ke_85 (by decide))) (KE.mono ke_91 (by decide))), (Kp.tr (Kp.tr (Kp.tr (Kp.tr (Kp.tr (Kp.tr (Kp.tr (Kp.tr (Kp.tr (Kp.tr (Kp.tr (Kp.tr (Kp.tr (Kp.tr (Kp.tr (Kp.tr (Kp.tr (Kp.tr (Kp.tr (Kp.tr (Kp.tr (Kp.tr (Kp.tr (Kp.rf : Kp [390, 391, 392, 393, 394] M M) (Kp.mono kp_1 (by decide))) (Kp.mono kp_4 (by decide))) (Kp.mono kp_6 (by decide))) (Kp.mono kp_9 (by decide))) (Kp.mono kp_10 (by decide))) (Kp.mono kp_12 (by decide))) (Kp.mono kp_16 (by decide))) (Kp.mono kp_18 (by decide))) (Kp.mono kp_21 (by decide))) (Kp.mono kp_23 (by decide))) (Kp.mono kp_25 (by decide))) (Kp.mono kp_27 (by decide))) (Kp.mono kp_28 (by decide))) (Kp.mono kp_69 (by decide))) (Kp.mono kp_71 (by decide))) (Kp.mono kp_73 (by decide))) (Kp.mono kp_76 (by decide))) (Kp.mono kp_77 (by decide))) (Kp.mono kp_80 (by decide))) (Kp.mono kp_82 (by decide))) (Kp.mono kp_84 (by decide))) (Kp.mono kp_85 (by decide))) (Kp.mono kp_91 (by decide)))⟩
    · rw [if_neg hb_77]
      refine T_eq (pc' := 205) (L' := [(0, .ref 373), (1, .int (nI 16))]) (st' := [.int (nI 0)]) (M' := M_77) rfl rfl rfl rfl ?_
      refine N_if_eq_t (b := 0) d_Mo_code_205 (tgt := 217) rfl (by omega) (by omega) ?_
      refine T_aload_n (v := .ref 373) d_Mo_code_217 rfl (Or.inr ⟨_, rfl⟩) ?_
      refine T_bipush (v := nI 28) d_Mo_code_218 (by decide) ?_
      refine T_iload_n d_Mo_code_220 rfl ?_
      refine T_iconst (v := nI 2) d_Mo_code_221 (by decide) ?_
      refine N_iadd (a := 2) (b := 16) (c := 18) d_Mo_code_222 rfl ?_
      refine T_bipush (v := nI 28) d_Mo_code_223 (by decide) ?_
      have r_92 := (ke_77 18 (by decide)).trans ((ke_76 18 (by decide)).trans ((ke_73 18 (by decide)).trans ((ke_71 18 (by decide)).trans ((ke_69 18 (by decide)).trans ((ke_28 18 (by decide)).trans ((ke_27 18 (by decide)).trans ((ke_25 18 (by decide)).trans ((ke_23 18 (by decide)).trans ((ke_21 18 (by decide)).trans ((ke_18 18 (by decide)).trans ((ke_16 18 (by decide)).trans ((ke_12 18 (by decide)).trans ((ke_10 18 (by decide)).trans ((ke_9 18 (by decide)).trans ((ke_6 18 (by decide)).trans ((ke_4 18 (by decide)).trans (r_2)))))))))))))))))
      have r_93 := (ke_77 28 (by decide)).trans ((ke_76 28 (by decide)).trans ((ke_73 28 (by decide)).trans (vr_71)))
      refine T_virtual (as := [.int (nI 28), .int (nI 18), .int (nI 28)]) (rest := []) (b := 373) d_Mo_code_225 rfl (jw_Mo_sub.jo (by decide)) lm_Mo_152 ji_Mo_sub js_Mo_sub hE_77.ob rfl rfl rfl (Nat.le_of_ble_eq_true rfl) (by decide) (by decide) (u_Mo_sub hE_77 (by decide) (by decide) (by decide) r_92 r_93) (fun r M_94 hq => ?_)
      obtain ⟨rfl, E_94, hE_94, vr_94, ke_94, kp_94⟩ := hq
      obtain ⟨x_94, hx_94⟩ : ∃ z : Int, z = (Z - x_71) := ⟨_, rfl⟩
      rw [← hx_94] at vr_94
      refine T_eq (pc' := 228) (L' := [(0, .ref 373), (1, .int (nI 16))]) (st' := []) (M' := M_94) rfl rfl rfl rfl ?_
      refine T_aload_n (v := .ref 373) d_Mo_code_228 rfl (Or.inr ⟨_, rfl⟩) ?_
      refine T_bipush (v := nI 29) d_Mo_code_229 (by decide) ?_
      refine T_bipush (v := nI 29) d_Mo_code_231 (by decide) ?_
      refine T_bipush (v := nI 28) d_Mo_code_233 (by decide) ?_
      have r_95 := (ke_94 29 (by decide)).trans ((ke_77 29 (by decide)).trans ((ke_76 29 (by decide)).trans (vr_73)))
      refine T_virtual (as := [.int (nI 29), .int (nI 29), .int (nI 28)]) (rest := []) (b := 373) d_Mo_code_235 rfl (jw_Mo_mul.jo (by decide)) lm_Mo_163 ji_Mo_mul js_Mo_mul hE_94.ob rfl rfl rfl (Nat.le_of_ble_eq_true rfl) (by decide) (by decide) (u_Mo_mul hE_94 (by decide) (by decide) (by decide) r_95 vr_94) (fun r M_96 hq => ?_)
      obtain ⟨rfl, E_96, hE_96, vr_96, ke_96, kp_96⟩ := hq
      obtain ⟨x_96, hx_96⟩ : ∃ z : Int, z = (x_73 * x_94) := ⟨_, rfl⟩
      rw [← hx_96] at vr_96
      refine T_eq (pc' := 238) (L' := [(0, .ref 373), (1, .int (nI 16))]) (st' := []) (M' := M_96) rfl rfl rfl rfl ?_
      refine T_aload_n (v := .ref 373) d_Mo_code_238 rfl (Or.inr ⟨_, rfl⟩) ?_
      refine T_bipush (v := nI 29) d_Mo_code_239 (by decide) ?_
      refine T_virtual (as := [.int (nI 29)]) (rest := []) (b := 373) d_Mo_code_241 rfl (jw_Mo_odd.jo (by decide)) lm_Mo_174 ji_Mo_odd js_Mo_odd hE_96.ob rfl rfl rfl (Nat.le_of_ble_eq_true rfl) (by decide) (by decide) (u_Mo_odd hE_96 (by decide) vr_96) (fun r M_97 hq => ?_)
      obtain ⟨rfl, pk_97, E_97, hE_97, ke_97, kp_97⟩ := hq
      by_cases hb_97 : (x_96 % pP) % 2 = 1
      · rw [if_pos hb_97]
        refine T_eq (pc' := 244) (L' := [(0, .ref 373), (1, .int (nI 16))]) (st' := [.int (nI 1)]) (M' := M_97) rfl rfl rfl rfl ?_
        refine N_if_eq_f (b := 1) d_Mo_code_244 (tgt := 256) rfl (by omega) (by omega) ?_
        refine T_aload_n (v := .ref 373) d_Mo_code_247 rfl (Or.inr ⟨_, rfl⟩) ?_
        refine T_bipush (v := nI 29) d_Mo_code_248 (by decide) ?_
        refine T_iconst (v := nI 0) d_Mo_code_250 (by decide) ?_
        refine T_bipush (v := nI 29) d_Mo_code_251 (by decide) ?_
        have r_98 := (ke_97 0 (by decide)).trans ((ke_96 0 (by decide)).trans ((ke_94 0 (by decide)).trans ((ke_77 0 (by decide)).trans ((ke_76 0 (by decide)).trans ((ke_73 0 (by decide)).trans ((ke_71 0 (by decide)).trans ((ke_69 0 (by decide)).trans ((ke_28 0 (by decide)).trans ((ke_27 0 (by decide)).trans ((ke_25 0 (by decide)).trans ((ke_23 0 (by decide)).trans ((ke_21 0 (by decide)).trans ((ke_18 0 (by decide)).trans ((ke_16 0 (by decide)).trans (r_14)))))))))))))))
        have r_99 := (ke_97 29 (by decide)).trans (vr_96)
        refine T_virtual (as := [.int (nI 29), .int (nI 0), .int (nI 29)]) (rest := []) (b := 373) d_Mo_code_253 rfl (jw_Mo_sub.jo (by decide)) lm_Mo_152 ji_Mo_sub js_Mo_sub hE_97.ob rfl rfl rfl (Nat.le_of_ble_eq_true rfl) (by decide) (by decide) (u_Mo_sub hE_97 (by decide) (by decide) (by decide) r_98 r_99) (fun r M_100 hq => ?_)
        obtain ⟨rfl, E_100, hE_100, vr_100, ke_100, kp_100⟩ := hq
        obtain ⟨x_100, hx_100⟩ : ∃ z : Int, z = (0 - x_96) := ⟨_, rfl⟩
        rw [← hx_100] at vr_100
        refine T_eq (pc' := 256) (L' := [(0, .ref 373), (1, .int (nI 16))]) (st' := []) (M' := M_100) rfl rfl rfl rfl ?_
        refine T_aload_n (v := .ref 373) d_Mo_code_256 rfl (Or.inr ⟨_, rfl⟩) ?_
        refine T_bipush (v := nI 29) d_Mo_code_257 (by decide) ?_
        refine T_virtual (as := [.int (nI 29)]) (rest := []) (b := 373) d_Mo_code_259 rfl (jw_Mo_pack.jo (by decide)) lm_Mo_149 ji_Mo_pack js_Mo_pack hE_100.ob rfl rfl rfl (Nat.le_of_ble_eq_true rfl) (by decide) (by decide) (u_Mo_pack hE_100 (by decide) vr_100) (fun r M_101 hq => ?_)
        obtain ⟨rfl, pk_101, E_101, hE_101, ke_101, kp_101⟩ := hq
        refine T_eq (pc' := 262) (L' := [(0, .ref 373), (1, .int (nI 16))]) (st' := []) (M' := M_101) rfl rfl rfl rfl ?_
        have a20 : ph x_6 = cAq (ph Y) (ph Z) := by rw [hx_6, ph_mul, hx_4, ph_sub, hx_1, ph_add]; rfl
        have a21 : ph x_9 = ph X * ph Y := by rw [hx_9, ph_mul]
        have aR : ph x_16 = cR (ph X) (ph Y) (ph Z) := by rw [hx_16, ph_rt, ph_1, hx_12, ph_mul, hx_10, ph_mul, a20, a21]; rfl
        have aS : ph x_25 = cS (ph X) (ph Y) (ph Z) (ph T) := by
          rw [hx_25, ph_mul, hx_23, ph_mul, hx_21, ph_mul, hx_18, ph_mul, aR, a20, a21]; unfold cS; grind -lia -linarith
        have t1 : ph x_27 = ph x_25 * ph T := by rw [hx_27, ph_mul, Lean.Grind.CommSemiring.mul_comm]
        have he : ph x_69 = ph X := by rw [hx_69]
        have hf : ph x_71 = ph Y := by rw [hx_71]
        have hg : ph x_73 = ph X * ph Y * cR (ph X) (ph Y) (ph Z) := by rw [hx_73, hx_21, ph_mul, aR, a21]; grind -lia -linarith
        have t2 : ph x_76 = ph x_69 * ph x_25 := by rw [hx_76, ph_mul]
        have hq : ph x_96 = (ph Z - ph x_71) * ph x_73 := by rw [hx_96, ph_mul, hx_94, ph_sub, Lean.Grind.CommSemiring.mul_comm]
        have hc : ph x_100 = cF (ph X) (ph Y) (ph Z) (ph T) := by
          refine cF_of (S := ph x_25) (e := ph x_69) (f := ph x_71) (g := ph x_73) (f' := ph x_71) (q := ph x_96) aS ?_ ?_ hq ?_
          · exact Or.inr ⟨fun z => hb_28 ((od_of t1).mp z), he, hf, hg⟩
          · exact Or.inr ⟨fun z => hb_77 ((od_of t2).mp z), rfl⟩
          · exact Or.inl ⟨od_ph.mpr hb_97, by rw [hx_100, ph_zs]⟩
        exact T_vret d_Mo_code_262 rfl (by decide) (by decide) ⟨rfl, ⟨_, pk_101, hc⟩, _, hE_101, (KE.tr (KE.tr (KE.tr (KE.tr (KE.tr (KE.tr (KE.tr (KE.tr (KE.tr (KE.tr (KE.tr (KE.tr (KE.tr (KE.tr (KE.tr (KE.tr (KE.tr (KE.tr (KE.tr (KE.tr (KE.tr (KE.tr (KE.tr (KE.rf : KE [20, 21, 22, 23, 24, 25, 26, 27, 28, 29, 50, 51, 52, 53, 54, 55, 56, 61, 62, 63] E E) (KE.mono ke_1 (by decide))) (KE.mono ke_4 (by decide))) (KE.mono ke_6 (by decide))) (KE.mono ke_9 (by decide))) (KE.mono ke_10 (by decide))) (KE.mono ke_12 (by decide))) (KE.mono ke_16 (by decide))) (KE.mono ke_18 (by decide))) (KE.mono ke_21 (by decide))) (KE.mono ke_23 (by decide))) (KE.mono ke_25 (by decide))) (KE.mono ke_27 (by decide))) (KE.mono ke_28 (by decide))) (KE.mono ke_69 (by decide))) (KE.mono ke_71 (by decide))) (KE.mono ke_73 (by decide))) (KE.mono ke_76 (by decide))) (KE.mono ke_77 (by decide))) (KE.mono ke_94 (by decide))) (KE.mono ke_96 (by decide))) (KE.mono ke_97 (by decide))) (KE.mono ke_100 (by decide))) (KE.mono ke_101 (by decide))), (Kp.tr (Kp.tr (Kp.tr (Kp.tr (Kp.tr (Kp.tr (Kp.tr (Kp.tr (Kp.tr (Kp.tr (Kp.tr (Kp.tr (Kp.tr (Kp.tr (Kp.tr (Kp.tr (Kp.tr (Kp.tr (Kp.tr (Kp.tr (Kp.tr (Kp.tr (Kp.tr (Kp.rf : Kp [390, 391, 392, 393, 394] M M) (Kp.mono kp_1 (by decide))) (Kp.mono kp_4 (by decide))) (Kp.mono kp_6 (by decide))) (Kp.mono kp_9 (by decide))) (Kp.mono kp_10 (by decide))) (Kp.mono kp_12 (by decide))) (Kp.mono kp_16 (by decide))) (Kp.mono kp_18 (by decide))) (Kp.mono kp_21 (by decide))) (Kp.mono kp_23 (by decide))) (Kp.mono kp_25 (by decide))) (Kp.mono kp_27 (by decide))) (Kp.mono kp_28 (by decide))) (Kp.mono kp_69 (by decide))) (Kp.mono kp_71 (by decide))) (Kp.mono kp_73 (by decide))) (Kp.mono kp_76 (by decide))) (Kp.mono kp_77 (by decide))) (Kp.mono kp_94 (by decide))) (Kp.mono kp_96 (by decide))) (Kp.mono kp_97 (by decide))) (Kp.mono kp_100 (by decide))) (Kp.mono kp_101 (by decide)))⟩
      · rw [if_neg hb_97]
        refine T_eq (pc' := 244) (L' := [(0, .ref 373), (1, .int (nI 16))]) (st' := [.int (nI 0)]) (M' := M_97) rfl rfl rfl rfl ?_
        refine N_if_eq_t (b := 0) d_Mo_code_244 (tgt := 256) rfl (by omega) (by omega) ?_
        refine T_aload_n (v := .ref 373) d_Mo_code_256 rfl (Or.inr ⟨_, rfl⟩) ?_
        refine T_bipush (v := nI 29) d_Mo_code_257 (by decide) ?_
        have r_102 := (ke_97 29 (by decide)).trans (vr_96)
        refine T_virtual (as := [.int (nI 29)]) (rest := []) (b := 373) d_Mo_code_259 rfl (jw_Mo_pack.jo (by decide)) lm_Mo_149 ji_Mo_pack js_Mo_pack hE_97.ob rfl rfl rfl (Nat.le_of_ble_eq_true rfl) (by decide) (by decide) (u_Mo_pack hE_97 (by decide) r_102) (fun r M_103 hq => ?_)
        obtain ⟨rfl, pk_103, E_103, hE_103, ke_103, kp_103⟩ := hq
        refine T_eq (pc' := 262) (L' := [(0, .ref 373), (1, .int (nI 16))]) (st' := []) (M' := M_103) rfl rfl rfl rfl ?_
        have a20 : ph x_6 = cAq (ph Y) (ph Z) := by rw [hx_6, ph_mul, hx_4, ph_sub, hx_1, ph_add]; rfl
        have a21 : ph x_9 = ph X * ph Y := by rw [hx_9, ph_mul]
        have aR : ph x_16 = cR (ph X) (ph Y) (ph Z) := by rw [hx_16, ph_rt, ph_1, hx_12, ph_mul, hx_10, ph_mul, a20, a21]; rfl
        have aS : ph x_25 = cS (ph X) (ph Y) (ph Z) (ph T) := by
          rw [hx_25, ph_mul, hx_23, ph_mul, hx_21, ph_mul, hx_18, ph_mul, aR, a20, a21]; unfold cS; grind -lia -linarith
        have t1 : ph x_27 = ph x_25 * ph T := by rw [hx_27, ph_mul, Lean.Grind.CommSemiring.mul_comm]
        have he : ph x_69 = ph X := by rw [hx_69]
        have hf : ph x_71 = ph Y := by rw [hx_71]
        have hg : ph x_73 = ph X * ph Y * cR (ph X) (ph Y) (ph Z) := by rw [hx_73, hx_21, ph_mul, aR, a21]; grind -lia -linarith
        have t2 : ph x_76 = ph x_69 * ph x_25 := by rw [hx_76, ph_mul]
        have hq : ph x_96 = (ph Z - ph x_71) * ph x_73 := by rw [hx_96, ph_mul, hx_94, ph_sub, Lean.Grind.CommSemiring.mul_comm]
        have hc : ph x_96 = cF (ph X) (ph Y) (ph Z) (ph T) := by
          refine cF_of (S := ph x_25) (e := ph x_69) (f := ph x_71) (g := ph x_73) (f' := ph x_71) (q := ph x_96) aS ?_ ?_ hq ?_
          · exact Or.inr ⟨fun z => hb_28 ((od_of t1).mp z), he, hf, hg⟩
          · exact Or.inr ⟨fun z => hb_77 ((od_of t2).mp z), rfl⟩
          · exact Or.inr ⟨fun z => hb_97 (od_ph.mp z), rfl⟩
        exact T_vret d_Mo_code_262 rfl (by decide) (by decide) ⟨rfl, ⟨_, pk_103, hc⟩, _, hE_103, (KE.tr (KE.tr (KE.tr (KE.tr (KE.tr (KE.tr (KE.tr (KE.tr (KE.tr (KE.tr (KE.tr (KE.tr (KE.tr (KE.tr (KE.tr (KE.tr (KE.tr (KE.tr (KE.tr (KE.tr (KE.tr (KE.tr (KE.rf : KE [20, 21, 22, 23, 24, 25, 26, 27, 28, 29, 50, 51, 52, 53, 54, 55, 56, 61, 62, 63] E E) (KE.mono ke_1 (by decide))) (KE.mono ke_4 (by decide))) (KE.mono ke_6 (by decide))) (KE.mono ke_9 (by decide))) (KE.mono ke_10 (by decide))) (KE.mono ke_12 (by decide))) (KE.mono ke_16 (by decide))) (KE.mono ke_18 (by decide))) (KE.mono ke_21 (by decide))) (KE.mono ke_23 (by decide))) (KE.mono ke_25 (by decide))) (KE.mono ke_27 (by decide))) (KE.mono ke_28 (by decide))) (KE.mono ke_69 (by decide))) (KE.mono ke_71 (by decide))) (KE.mono ke_73 (by decide))) (KE.mono ke_76 (by decide))) (KE.mono ke_77 (by decide))) (KE.mono ke_94 (by decide))) (KE.mono ke_96 (by decide))) (KE.mono ke_97 (by decide))) (KE.mono ke_103 (by decide))), (Kp.tr (Kp.tr (Kp.tr (Kp.tr (Kp.tr (Kp.tr (Kp.tr (Kp.tr (Kp.tr (Kp.tr (Kp.tr (Kp.tr (Kp.tr (Kp.tr (Kp.tr (Kp.tr (Kp.tr (Kp.tr (Kp.tr (Kp.tr (Kp.tr (Kp.tr (Kp.rf : Kp [390, 391, 392, 393, 394] M M) (Kp.mono kp_1 (by decide))) (Kp.mono kp_4 (by decide))) (Kp.mono kp_6 (by decide))) (Kp.mono kp_9 (by decide))) (Kp.mono kp_10 (by decide))) (Kp.mono kp_12 (by decide))) (Kp.mono kp_16 (by decide))) (Kp.mono kp_18 (by decide))) (Kp.mono kp_21 (by decide))) (Kp.mono kp_23 (by decide))) (Kp.mono kp_25 (by decide))) (Kp.mono kp_27 (by decide))) (Kp.mono kp_28 (by decide))) (Kp.mono kp_69 (by decide))) (Kp.mono kp_71 (by decide))) (Kp.mono kp_73 (by decide))) (Kp.mono kp_76 (by decide))) (Kp.mono kp_77 (by decide))) (Kp.mono kp_94 (by decide))) (Kp.mono kp_96 (by decide))) (Kp.mono kp_97 (by decide))) (Kp.mono kp_103 (by decide)))⟩
set_option maxHeartbeats 8000000 in
theorem u_Mo_map_12 {G : GX} {M : List va_E} {v : Nat → Int32} {E : Nat → Int} (hE : RE M v E) (ck : CK E) {fr at0 n : Nat} {g : Nat → Int32} {b : Nat → Nat} (hg : M[fr]? = some (ir n g)) (kf : fr ∉ RW) (hn : at0 + 32 ≤ n) (hn2 : n < 2 ^ 31) (hb : ∀ k, k < 32 → g (at0 + k) = nI (b k)) (hb2 : ∀ k, k < 32 → b k < 256) : CT G mi_Mo_mapPart [.ref 373, .int (nI 12), .ref fr, .int (nI at0)] M (fun r M' => r = none ∧ ∃ X Y Z T, (ph X = gX_ (ph (num32 (fun k => (b k : Int)) % n255)) ∧ ph Y = gY_ (ph (num32 (fun k => (b k : Int)) % n255)) ∧ ph Z = gZ_ (ph (num32 (fun k => (b k : Int)) % n255)) ∧ ph T = gT_ (ph (num32 (fun k => (b k : Int)) % n255))) ∧ qP4 M v E 12 X Y Z T [20, 21, 22, 23, 24, 25, 26, 27, 28, 29, 30, 31, 50, 51, 52, 53, 54, 55, 56, 61, 62, 63, 12, 13, 14, 15] M') := by
  refine CT.of (by decide) (Nat.le_of_ble_eq_true rfl) ?_
  show TT G mi_Mo_mapPart 0 [(0, .ref 373), (1, .int (nI 12)), (2, .ref fr), (3, .int (nI at0))] [] M 0 0 _
  refine T_aload_n (v := .ref 373) d_Mo_mapPart_0 rfl (Or.inr ⟨_, rfl⟩) ?_
  refine T_bipush (v := nI 20) d_Mo_mapPart_1 (by decide) ?_
  refine T_aload_n (v := .ref fr) d_Mo_mapPart_3 rfl (Or.inr ⟨_, rfl⟩) ?_
  refine T_iload_n d_Mo_mapPart_4 rfl ?_
  refine T_virtual (as := [.int (nI 20), .ref fr, .int (nI at0)]) (rest := []) (b := 373) d_Mo_mapPart_5 rfl (jw_Mo_unpack.jo (by decide)) lm_Mo_201 ji_Mo_unpack js_Mo_unpack hE.ob rfl rfl rfl (Nat.le_of_ble_eq_true rfl) (by decide) (by decide) (u_Mo_unpack hE (by decide) hg (fun c => kf (by rw [c]; decide)) hn hn2 hb hb2) (fun r M_1 hq => ?_)
  obtain ⟨rfl, E_1, hE_1, vr_1, ke_1, kp_1⟩ := hq
  obtain ⟨x_1, hx_1⟩ : ∃ z : Int, z = (num32 (fun k => (b k : Int)) % n255) := ⟨_, rfl⟩
  rw [← hx_1] at vr_1
  refine T_eq (pc' := 8) (L' := [(0, .ref 373), (1, .int (nI 12)), (2, .ref fr), (3, .int (nI at0))]) (st' := []) (M' := M_1) rfl rfl rfl rfl ?_
  refine T_aload_n (v := .ref 373) d_Mo_mapPart_8 rfl (Or.inr ⟨_, rfl⟩) ?_
  refine T_bipush (v := nI 21) d_Mo_mapPart_9 (by decide) ?_
  refine T_bipush (v := nI 20) d_Mo_mapPart_11 (by decide) ?_
  refine T_bipush (v := nI 20) d_Mo_mapPart_13 (by decide) ?_
  refine T_virtual (as := [.int (nI 21), .int (nI 20), .int (nI 20)]) (rest := []) (b := 373) d_Mo_mapPart_15 rfl (jw_Mo_mul.jo (by decide)) lm_Mo_163 ji_Mo_mul js_Mo_mul hE_1.ob rfl rfl rfl (Nat.le_of_ble_eq_true rfl) (by decide) (by decide) (u_Mo_mul hE_1 (by decide) (by decide) (by decide) vr_1 vr_1) (fun r M_2 hq => ?_)
  obtain ⟨rfl, E_2, hE_2, vr_2, ke_2, kp_2⟩ := hq
  obtain ⟨x_2, hx_2⟩ : ∃ z : Int, z = (x_1 * x_1) := ⟨_, rfl⟩
  rw [← hx_2] at vr_2
  refine T_eq (pc' := 18) (L' := [(0, .ref 373), (1, .int (nI 12)), (2, .ref fr), (3, .int (nI at0))]) (st' := []) (M' := M_2) rfl rfl rfl rfl ?_
  refine T_aload_n (v := .ref 373) d_Mo_mapPart_18 rfl (Or.inr ⟨_, rfl⟩) ?_
  refine T_bipush (v := nI 21) d_Mo_mapPart_19 (by decide) ?_
  refine T_bipush (v := nI 21) d_Mo_mapPart_21 (by decide) ?_
  refine T_iconst (v := nI 3) d_Mo_mapPart_23 (by decide) ?_
  have r_3 := (ke_2 3 (by decide)).trans ((ke_1 3 (by decide)).trans (ck.c3))
  refine T_virtual (as := [.int (nI 21), .int (nI 21), .int (nI 3)]) (rest := []) (b := 373) d_Mo_mapPart_24 rfl (jw_Mo_mul.jo (by decide)) lm_Mo_163 ji_Mo_mul js_Mo_mul hE_2.ob rfl rfl rfl (Nat.le_of_ble_eq_true rfl) (by decide) (by decide) (u_Mo_mul hE_2 (by decide) (by decide) (by decide) vr_2 r_3) (fun r M_4 hq => ?_)
  obtain ⟨rfl, E_4, hE_4, vr_4, ke_4, kp_4⟩ := hq
  obtain ⟨x_4, hx_4⟩ : ∃ z : Int, z = (x_2 * cI) := ⟨_, rfl⟩
  rw [← hx_4] at vr_4
  refine T_eq (pc' := 27) (L' := [(0, .ref 373), (1, .int (nI 12)), (2, .ref fr), (3, .int (nI at0))]) (st' := []) (M' := M_4) rfl rfl rfl rfl ?_
  refine T_aload_n (v := .ref 373) d_Mo_mapPart_27 rfl (Or.inr ⟨_, rfl⟩) ?_
  refine T_bipush (v := nI 22) d_Mo_mapPart_28 (by decide) ?_
  refine T_bipush (v := nI 21) d_Mo_mapPart_30 (by decide) ?_
  refine T_iconst (v := nI 1) d_Mo_mapPart_32 (by decide) ?_
  have r_5 := (ke_4 1 (by decide)).trans ((ke_2 1 (by decide)).trans ((ke_1 1 (by decide)).trans (ck.c1)))
  refine T_virtual (as := [.int (nI 22), .int (nI 21), .int (nI 1)]) (rest := []) (b := 373) d_Mo_mapPart_33 rfl (jw_Mo_add.jo (by decide)) lm_Mo_182 ji_Mo_add js_Mo_add hE_4.ob rfl rfl rfl (Nat.le_of_ble_eq_true rfl) (by decide) (by decide) (u_Mo_add hE_4 (by decide) (by decide) (by decide) vr_4 r_5) (fun r M_6 hq => ?_)
  obtain ⟨rfl, E_6, hE_6, vr_6, ke_6, kp_6⟩ := hq
  obtain ⟨x_6, hx_6⟩ : ∃ z : Int, z = (x_4 + 1) := ⟨_, rfl⟩
  rw [← hx_6] at vr_6
  refine T_eq (pc' := 36) (L' := [(0, .ref 373), (1, .int (nI 12)), (2, .ref fr), (3, .int (nI at0))]) (st' := []) (M' := M_6) rfl rfl rfl rfl ?_
  refine T_aload_n (v := .ref 373) d_Mo_mapPart_36 rfl (Or.inr ⟨_, rfl⟩) ?_
  refine T_bipush (v := nI 22) d_Mo_mapPart_37 (by decide) ?_
  refine T_bipush (v := nI 22) d_Mo_mapPart_39 (by decide) ?_
  refine T_bipush (v := nI 6) d_Mo_mapPart_41 (by decide) ?_
  have r_7 := (ke_6 6 (by decide)).trans ((ke_4 6 (by decide)).trans ((ke_2 6 (by decide)).trans ((ke_1 6 (by decide)).trans (ck.c6))))
  refine T_virtual (as := [.int (nI 22), .int (nI 22), .int (nI 6)]) (rest := []) (b := 373) d_Mo_mapPart_43 rfl (jw_Mo_mul.jo (by decide)) lm_Mo_163 ji_Mo_mul js_Mo_mul hE_6.ob rfl rfl rfl (Nat.le_of_ble_eq_true rfl) (by decide) (by decide) (u_Mo_mul hE_6 (by decide) (by decide) (by decide) vr_6 r_7) (fun r M_8 hq => ?_)
  obtain ⟨rfl, E_8, hE_8, vr_8, ke_8, kp_8⟩ := hq
  obtain ⟨x_8, hx_8⟩ : ∃ z : Int, z = (x_6 * cO) := ⟨_, rfl⟩
  rw [← hx_8] at vr_8
  refine T_eq (pc' := 46) (L' := [(0, .ref 373), (1, .int (nI 12)), (2, .ref fr), (3, .int (nI at0))]) (st' := []) (M' := M_8) rfl rfl rfl rfl ?_
  refine T_aload_n (v := .ref 373) d_Mo_mapPart_46 rfl (Or.inr ⟨_, rfl⟩) ?_
  refine T_bipush (v := nI 23) d_Mo_mapPart_47 (by decide) ?_
  refine T_bipush (v := nI 21) d_Mo_mapPart_49 (by decide) ?_
  refine T_iconst (v := nI 2) d_Mo_mapPart_51 (by decide) ?_
  have r_9 := (ke_8 21 (by decide)).trans ((ke_6 21 (by decide)).trans (vr_4))
  have r_10 := (ke_8 2 (by decide)).trans ((ke_6 2 (by decide)).trans ((ke_4 2 (by decide)).trans ((ke_2 2 (by decide)).trans ((ke_1 2 (by decide)).trans (ck.c2)))))
  refine T_virtual (as := [.int (nI 23), .int (nI 21), .int (nI 2)]) (rest := []) (b := 373) d_Mo_mapPart_52 rfl (jw_Mo_mul.jo (by decide)) lm_Mo_163 ji_Mo_mul js_Mo_mul hE_8.ob rfl rfl rfl (Nat.le_of_ble_eq_true rfl) (by decide) (by decide) (u_Mo_mul hE_8 (by decide) (by decide) (by decide) r_9 r_10) (fun r M_11 hq => ?_)
  obtain ⟨rfl, E_11, hE_11, vr_11, ke_11, kp_11⟩ := hq
  obtain ⟨x_11, hx_11⟩ : ∃ z : Int, z = (x_4 * cD) := ⟨_, rfl⟩
  rw [← hx_11] at vr_11
  refine T_eq (pc' := 55) (L' := [(0, .ref 373), (1, .int (nI 12)), (2, .ref fr), (3, .int (nI at0))]) (st' := []) (M' := M_11) rfl rfl rfl rfl ?_
  refine T_aload_n (v := .ref 373) d_Mo_mapPart_55 rfl (Or.inr ⟨_, rfl⟩) ?_
  refine T_bipush (v := nI 23) d_Mo_mapPart_56 (by decide) ?_
  refine T_bipush (v := nI 23) d_Mo_mapPart_58 (by decide) ?_
  refine T_iconst (v := nI 1) d_Mo_mapPart_60 (by decide) ?_
  have r_12 := (ke_11 1 (by decide)).trans ((ke_8 1 (by decide)).trans ((ke_6 1 (by decide)).trans (r_5)))
  refine T_virtual (as := [.int (nI 23), .int (nI 23), .int (nI 1)]) (rest := []) (b := 373) d_Mo_mapPart_61 rfl (jw_Mo_add.jo (by decide)) lm_Mo_182 ji_Mo_add js_Mo_add hE_11.ob rfl rfl rfl (Nat.le_of_ble_eq_true rfl) (by decide) (by decide) (u_Mo_add hE_11 (by decide) (by decide) (by decide) vr_11 r_12) (fun r M_13 hq => ?_)
  obtain ⟨rfl, E_13, hE_13, vr_13, ke_13, kp_13⟩ := hq
  obtain ⟨x_13, hx_13⟩ : ∃ z : Int, z = (x_11 + 1) := ⟨_, rfl⟩
  rw [← hx_13] at vr_13
  refine T_eq (pc' := 64) (L' := [(0, .ref 373), (1, .int (nI 12)), (2, .ref fr), (3, .int (nI at0))]) (st' := []) (M' := M_13) rfl rfl rfl rfl ?_
  refine T_aload_n (v := .ref 373) d_Mo_mapPart_64 rfl (Or.inr ⟨_, rfl⟩) ?_
  refine T_bipush (v := nI 23) d_Mo_mapPart_65 (by decide) ?_
  refine T_iconst (v := nI 0) d_Mo_mapPart_67 (by decide) ?_
  refine T_bipush (v := nI 23) d_Mo_mapPart_68 (by decide) ?_
  have r_14 := (ke_13 0 (by decide)).trans ((ke_11 0 (by decide)).trans ((ke_8 0 (by decide)).trans ((ke_6 0 (by decide)).trans ((ke_4 0 (by decide)).trans ((ke_2 0 (by decide)).trans ((ke_1 0 (by decide)).trans (ck.c0)))))))
  refine T_virtual (as := [.int (nI 23), .int (nI 0), .int (nI 23)]) (rest := []) (b := 373) d_Mo_mapPart_70 rfl (jw_Mo_sub.jo (by decide)) lm_Mo_152 ji_Mo_sub js_Mo_sub hE_13.ob rfl rfl rfl (Nat.le_of_ble_eq_true rfl) (by decide) (by decide) (u_Mo_sub hE_13 (by decide) (by decide) (by decide) r_14 vr_13) (fun r M_15 hq => ?_)
  obtain ⟨rfl, E_15, hE_15, vr_15, ke_15, kp_15⟩ := hq
  obtain ⟨x_15, hx_15⟩ : ∃ z : Int, z = (0 - x_13) := ⟨_, rfl⟩
  rw [← hx_15] at vr_15
  refine T_eq (pc' := 73) (L' := [(0, .ref 373), (1, .int (nI 12)), (2, .ref fr), (3, .int (nI at0))]) (st' := []) (M' := M_15) rfl rfl rfl rfl ?_
  refine T_aload_n (v := .ref 373) d_Mo_mapPart_73 rfl (Or.inr ⟨_, rfl⟩) ?_
  refine T_bipush (v := nI 24) d_Mo_mapPart_74 (by decide) ?_
  refine T_bipush (v := nI 21) d_Mo_mapPart_76 (by decide) ?_
  refine T_iconst (v := nI 2) d_Mo_mapPart_78 (by decide) ?_
  have r_16 := (ke_15 21 (by decide)).trans ((ke_13 21 (by decide)).trans ((ke_11 21 (by decide)).trans (r_9)))
  have r_17 := (ke_15 2 (by decide)).trans ((ke_13 2 (by decide)).trans ((ke_11 2 (by decide)).trans (r_10)))
  refine T_virtual (as := [.int (nI 24), .int (nI 21), .int (nI 2)]) (rest := []) (b := 373) d_Mo_mapPart_79 rfl (jw_Mo_add.jo (by decide)) lm_Mo_182 ji_Mo_add js_Mo_add hE_15.ob rfl rfl rfl (Nat.le_of_ble_eq_true rfl) (by decide) (by decide) (u_Mo_add hE_15 (by decide) (by decide) (by decide) r_16 r_17) (fun r M_18 hq => ?_)
  obtain ⟨rfl, E_18, hE_18, vr_18, ke_18, kp_18⟩ := hq
  obtain ⟨x_18, hx_18⟩ : ∃ z : Int, z = (x_4 + cD) := ⟨_, rfl⟩
  rw [← hx_18] at vr_18
  refine T_eq (pc' := 82) (L' := [(0, .ref 373), (1, .int (nI 12)), (2, .ref fr), (3, .int (nI at0))]) (st' := []) (M' := M_18) rfl rfl rfl rfl ?_
  refine T_aload_n (v := .ref 373) d_Mo_mapPart_82 rfl (Or.inr ⟨_, rfl⟩) ?_
  refine T_bipush (v := nI 23) d_Mo_mapPart_83 (by decide) ?_
  refine T_bipush (v := nI 23) d_Mo_mapPart_85 (by decide) ?_
  refine T_bipush (v := nI 24) d_Mo_mapPart_87 (by decide) ?_
  have r_19 := (ke_18 23 (by decide)).trans (vr_15)
  refine T_virtual (as := [.int (nI 23), .int (nI 23), .int (nI 24)]) (rest := []) (b := 373) d_Mo_mapPart_89 rfl (jw_Mo_mul.jo (by decide)) lm_Mo_163 ji_Mo_mul js_Mo_mul hE_18.ob rfl rfl rfl (Nat.le_of_ble_eq_true rfl) (by decide) (by decide) (u_Mo_mul hE_18 (by decide) (by decide) (by decide) r_19 vr_18) (fun r M_20 hq => ?_)
  obtain ⟨rfl, E_20, hE_20, vr_20, ke_20, kp_20⟩ := hq
  obtain ⟨x_20, hx_20⟩ : ∃ z : Int, z = (x_15 * x_18) := ⟨_, rfl⟩
  rw [← hx_20] at vr_20
  refine T_eq (pc' := 92) (L' := [(0, .ref 373), (1, .int (nI 12)), (2, .ref fr), (3, .int (nI at0))]) (st' := []) (M' := M_20) rfl rfl rfl rfl ?_
  refine T_aload_n (v := .ref 373) d_Mo_mapPart_92 rfl (Or.inr ⟨_, rfl⟩) ?_
  refine T_bipush (v := nI 25) d_Mo_mapPart_93 (by decide) ?_
  refine T_bipush (v := nI 22) d_Mo_mapPart_95 (by decide) ?_
  refine T_bipush (v := nI 23) d_Mo_mapPart_97 (by decide) ?_
  have r_21 := (ke_20 22 (by decide)).trans ((ke_18 22 (by decide)).trans ((ke_15 22 (by decide)).trans ((ke_13 22 (by decide)).trans ((ke_11 22 (by decide)).trans (vr_8)))))
  have r_22 := (ke_20 0 (by decide)).trans ((ke_18 0 (by decide)).trans ((ke_15 0 (by decide)).trans (r_14)))
  have r_23 := (ke_20 3 (by decide)).trans ((ke_18 3 (by decide)).trans ((ke_15 3 (by decide)).trans ((ke_13 3 (by decide)).trans ((ke_11 3 (by decide)).trans ((ke_8 3 (by decide)).trans ((ke_6 3 (by decide)).trans ((ke_4 3 (by decide)).trans (r_3))))))))
  refine T_virtual (as := [.int (nI 25), .int (nI 22), .int (nI 23)]) (rest := []) (b := 373) d_Mo_mapPart_99 rfl (jw_Mo_root.jo (by decide)) lm_Mo_197 ji_Mo_root js_Mo_root hE_20.ob rfl rfl rfl (Nat.le_of_ble_eq_true rfl) (by decide) (by decide) (u_Mo_root hE_20 r_22 r_23 (by decide) (by decide) (by decide) (by decide) (by decide) r_21 vr_20) (fun r M_24 hq => ?_)
  obtain ⟨rfl, E_24, hE_24, vr_24, ke_24, kp_24⟩ := hq
  obtain ⟨x_24, hx_24⟩ : ∃ z : Int, z = (rt x_8 x_20) := ⟨_, rfl⟩
  rw [← hx_24] at vr_24
  have hg_24 := rtG_le x_8 x_20
  refine T_eq (pc' := 102) (L' := [(0, .ref 373), (1, .int (nI 12)), (2, .ref fr), (3, .int (nI at0))]) (st' := [.int (nI ((rtG x_8 x_20)))]) (M' := M_24) rfl rfl rfl rfl ?_
  refine T_istore (L' := [(4, .int (nI ((rtG x_8 x_20)))), (0, .ref 373), (1, .int (nI 12)), (2, .ref fr), (3, .int (nI at0))]) d_Mo_mapPart_102 (by decide) rfl ?_
  refine T_aload_n (v := .ref 373) d_Mo_mapPart_104 rfl (Or.inr ⟨_, rfl⟩) ?_
  refine T_bipush (v := nI 26) d_Mo_mapPart_105 (by decide) ?_
  refine T_iconst (v := nI 0) d_Mo_mapPart_107 (by decide) ?_
  refine T_iconst (v := nI 1) d_Mo_mapPart_108 (by decide) ?_
  have r_25 := (ke_24 0 (by decide)).trans (r_22)
  have r_26 := (ke_24 1 (by decide)).trans ((ke_20 1 (by decide)).trans ((ke_18 1 (by decide)).trans ((ke_15 1 (by decide)).trans ((ke_13 1 (by decide)).trans (r_12)))))
  refine T_virtual (as := [.int (nI 26), .int (nI 0), .int (nI 1)]) (rest := []) (b := 373) d_Mo_mapPart_109 rfl (jw_Mo_sub.jo (by decide)) lm_Mo_152 ji_Mo_sub js_Mo_sub hE_24.ob rfl rfl rfl (Nat.le_of_ble_eq_true rfl) (by decide) (by decide) (u_Mo_sub hE_24 (by decide) (by decide) (by decide) r_25 r_26) (fun r M_27 hq => ?_)
  obtain ⟨rfl, E_27, hE_27, vr_27, ke_27, kp_27⟩ := hq
  obtain ⟨x_27, hx_27⟩ : ∃ z : Int, z = (0 - 1) := ⟨_, rfl⟩
  rw [← hx_27] at vr_27
  refine T_eq (pc' := 112) (L' := [(4, .int (nI ((rtG x_8 x_20)))), (0, .ref 373), (1, .int (nI 12)), (2, .ref fr), (3, .int (nI at0))]) (st' := []) (M' := M_27) rfl rfl rfl rfl ?_
  refine T_iload d_Mo_mapPart_112 rfl ?_
  refine N_if_ne (b := (rtG x_8 x_20)) d_Mo_mapPart_114 (tgt := 153) rfl (by omega) (fun hgd => ?_) (fun hgd => ?_)
  ·
    refine T_aload_n (v := .ref 373) d_Mo_mapPart_153 rfl (Or.inr ⟨_, rfl⟩) ?_
    refine T_bipush (v := nI 27) d_Mo_mapPart_154 (by decide) ?_
    refine T_bipush (v := nI 21) d_Mo_mapPart_156 (by decide) ?_
    refine T_iconst (v := nI 1) d_Mo_mapPart_158 (by decide) ?_
    have r_28 := (ke_27 21 (by decide)).trans ((ke_24 21 (by decide)).trans ((ke_20 21 (by decide)).trans ((ke_18 21 (by decide)).trans (r_16))))
    have r_29 := (ke_27 1 (by decide)).trans (r_26)
    refine T_virtual (as := [.int (nI 27), .int (nI 21), .int (nI 1)]) (rest := []) (b := 373) d_Mo_mapPart_159 rfl (jw_Mo_sub.jo (by decide)) lm_Mo_152 ji_Mo_sub js_Mo_sub hE_27.ob rfl rfl rfl (Nat.le_of_ble_eq_true rfl) (by decide) (by decide) (u_Mo_sub hE_27 (by decide) (by decide) (by decide) r_28 r_29) (fun r M_30 hq => ?_)
    obtain ⟨rfl, E_30, hE_30, vr_30, ke_30, kp_30⟩ := hq
    obtain ⟨x_30, hx_30⟩ : ∃ z : Int, z = (x_4 - 1) := ⟨_, rfl⟩
    rw [← hx_30] at vr_30
    refine T_eq (pc' := 162) (L' := [(4, .int (nI ((rtG x_8 x_20)))), (0, .ref 373), (1, .int (nI 12)), (2, .ref fr), (3, .int (nI at0))]) (st' := []) (M' := M_30) rfl rfl rfl rfl ?_
    refine T_aload_n (v := .ref 373) d_Mo_mapPart_162 rfl (Or.inr ⟨_, rfl⟩) ?_
    refine T_bipush (v := nI 27) d_Mo_mapPart_163 (by decide) ?_
    refine T_bipush (v := nI 27) d_Mo_mapPart_165 (by decide) ?_
    refine T_bipush (v := nI 26) d_Mo_mapPart_167 (by decide) ?_
    have r_31 := (ke_30 26 (by decide)).trans (vr_27)
    refine T_virtual (as := [.int (nI 27), .int (nI 27), .int (nI 26)]) (rest := []) (b := 373) d_Mo_mapPart_169 rfl (jw_Mo_mul.jo (by decide)) lm_Mo_163 ji_Mo_mul js_Mo_mul hE_30.ob rfl rfl rfl (Nat.le_of_ble_eq_true rfl) (by decide) (by decide) (u_Mo_mul hE_30 (by decide) (by decide) (by decide) vr_30 r_31) (fun r M_32 hq => ?_)
    obtain ⟨rfl, E_32, hE_32, vr_32, ke_32, kp_32⟩ := hq
    obtain ⟨x_32, hx_32⟩ : ∃ z : Int, z = (x_30 * x_27) := ⟨_, rfl⟩
    rw [← hx_32] at vr_32
    refine T_eq (pc' := 172) (L' := [(4, .int (nI ((rtG x_8 x_20)))), (0, .ref 373), (1, .int (nI 12)), (2, .ref fr), (3, .int (nI at0))]) (st' := []) (M' := M_32) rfl rfl rfl rfl ?_
    refine T_aload_n (v := .ref 373) d_Mo_mapPart_172 rfl (Or.inr ⟨_, rfl⟩) ?_
    refine T_bipush (v := nI 27) d_Mo_mapPart_173 (by decide) ?_
    refine T_bipush (v := nI 27) d_Mo_mapPart_175 (by decide) ?_
    refine T_bipush (v := nI 7) d_Mo_mapPart_177 (by decide) ?_
    have r_33 := (ke_32 7 (by decide)).trans ((ke_30 7 (by decide)).trans ((ke_27 7 (by decide)).trans ((ke_24 7 (by decide)).trans ((ke_20 7 (by decide)).trans ((ke_18 7 (by decide)).trans ((ke_15 7 (by decide)).trans ((ke_13 7 (by decide)).trans ((ke_11 7 (by decide)).trans ((ke_8 7 (by decide)).trans ((ke_6 7 (by decide)).trans ((ke_4 7 (by decide)).trans ((ke_2 7 (by decide)).trans ((ke_1 7 (by decide)).trans (ck.c7))))))))))))))
    refine T_virtual (as := [.int (nI 27), .int (nI 27), .int (nI 7)]) (rest := []) (b := 373) d_Mo_mapPart_179 rfl (jw_Mo_mul.jo (by decide)) lm_Mo_163 ji_Mo_mul js_Mo_mul hE_32.ob rfl rfl rfl (Nat.le_of_ble_eq_true rfl) (by decide) (by decide) (u_Mo_mul hE_32 (by decide) (by decide) (by decide) vr_32 r_33) (fun r M_34 hq => ?_)
    obtain ⟨rfl, E_34, hE_34, vr_34, ke_34, kp_34⟩ := hq
    obtain ⟨x_34, hx_34⟩ : ∃ z : Int, z = (x_32 * cL) := ⟨_, rfl⟩
    rw [← hx_34] at vr_34
    refine T_eq (pc' := 182) (L' := [(4, .int (nI ((rtG x_8 x_20)))), (0, .ref 373), (1, .int (nI 12)), (2, .ref fr), (3, .int (nI at0))]) (st' := []) (M' := M_34) rfl rfl rfl rfl ?_
    refine T_aload_n (v := .ref 373) d_Mo_mapPart_182 rfl (Or.inr ⟨_, rfl⟩) ?_
    refine T_bipush (v := nI 27) d_Mo_mapPart_183 (by decide) ?_
    refine T_bipush (v := nI 27) d_Mo_mapPart_185 (by decide) ?_
    refine T_bipush (v := nI 23) d_Mo_mapPart_187 (by decide) ?_
    have r_35 := (ke_34 23 (by decide)).trans ((ke_32 23 (by decide)).trans ((ke_30 23 (by decide)).trans ((ke_27 23 (by decide)).trans ((ke_24 23 (by decide)).trans (vr_20)))))
    refine T_virtual (as := [.int (nI 27), .int (nI 27), .int (nI 23)]) (rest := []) (b := 373) d_Mo_mapPart_189 rfl (jw_Mo_sub.jo (by decide)) lm_Mo_152 ji_Mo_sub js_Mo_sub hE_34.ob rfl rfl rfl (Nat.le_of_ble_eq_true rfl) (by decide) (by decide) (u_Mo_sub hE_34 (by decide) (by decide) (by decide) vr_34 r_35) (fun r M_36 hq => ?_)
    obtain ⟨rfl, E_36, hE_36, vr_36, ke_36, kp_36⟩ := hq
    obtain ⟨x_36, hx_36⟩ : ∃ z : Int, z = (x_34 - x_20) := ⟨_, rfl⟩
    rw [← hx_36] at vr_36
    refine T_eq (pc' := 192) (L' := [(4, .int (nI ((rtG x_8 x_20)))), (0, .ref 373), (1, .int (nI 12)), (2, .ref fr), (3, .int (nI at0))]) (st' := []) (M' := M_36) rfl rfl rfl rfl ?_
    refine T_aload_n (v := .ref 373) d_Mo_mapPart_192 rfl (Or.inr ⟨_, rfl⟩) ?_
    refine T_bipush (v := nI 28) d_Mo_mapPart_193 (by decide) ?_
    refine T_bipush (v := nI 25) d_Mo_mapPart_195 (by decide) ?_
    refine T_bipush (v := nI 25) d_Mo_mapPart_197 (by decide) ?_
    have r_37 := (ke_36 25 (by decide)).trans ((ke_34 25 (by decide)).trans ((ke_32 25 (by decide)).trans ((ke_30 25 (by decide)).trans ((ke_27 25 (by decide)).trans (vr_24)))))
    refine T_virtual (as := [.int (nI 28), .int (nI 25), .int (nI 25)]) (rest := []) (b := 373) d_Mo_mapPart_199 rfl (jw_Mo_add.jo (by decide)) lm_Mo_182 ji_Mo_add js_Mo_add hE_36.ob rfl rfl rfl (Nat.le_of_ble_eq_true rfl) (by decide) (by decide) (u_Mo_add hE_36 (by decide) (by decide) (by decide) r_37 r_37) (fun r M_38 hq => ?_)
    obtain ⟨rfl, E_38, hE_38, vr_38, ke_38, kp_38⟩ := hq
    obtain ⟨x_38, hx_38⟩ : ∃ z : Int, z = (x_24 + x_24) := ⟨_, rfl⟩
    rw [← hx_38] at vr_38
    refine T_eq (pc' := 202) (L' := [(4, .int (nI ((rtG x_8 x_20)))), (0, .ref 373), (1, .int (nI 12)), (2, .ref fr), (3, .int (nI at0))]) (st' := []) (M' := M_38) rfl rfl rfl rfl ?_
    refine T_aload_n (v := .ref 373) d_Mo_mapPart_202 rfl (Or.inr ⟨_, rfl⟩) ?_
    refine T_bipush (v := nI 28) d_Mo_mapPart_203 (by decide) ?_
    refine T_bipush (v := nI 28) d_Mo_mapPart_205 (by decide) ?_
    refine T_bipush (v := nI 23) d_Mo_mapPart_207 (by decide) ?_
    have r_39 := (ke_38 23 (by decide)).trans ((ke_36 23 (by decide)).trans (r_35))
    refine T_virtual (as := [.int (nI 28), .int (nI 28), .int (nI 23)]) (rest := []) (b := 373) d_Mo_mapPart_209 rfl (jw_Mo_mul.jo (by decide)) lm_Mo_163 ji_Mo_mul js_Mo_mul hE_38.ob rfl rfl rfl (Nat.le_of_ble_eq_true rfl) (by decide) (by decide) (u_Mo_mul hE_38 (by decide) (by decide) (by decide) vr_38 r_39) (fun r M_40 hq => ?_)
    obtain ⟨rfl, E_40, hE_40, vr_40, ke_40, kp_40⟩ := hq
    obtain ⟨x_40, hx_40⟩ : ∃ z : Int, z = (x_38 * x_20) := ⟨_, rfl⟩
    rw [← hx_40] at vr_40
    refine T_eq (pc' := 212) (L' := [(4, .int (nI ((rtG x_8 x_20)))), (0, .ref 373), (1, .int (nI 12)), (2, .ref fr), (3, .int (nI at0))]) (st' := []) (M' := M_40) rfl rfl rfl rfl ?_
    refine T_aload_n (v := .ref 373) d_Mo_mapPart_212 rfl (Or.inr ⟨_, rfl⟩) ?_
    refine T_bipush (v := nI 29) d_Mo_mapPart_213 (by decide) ?_
    refine T_bipush (v := nI 27) d_Mo_mapPart_215 (by decide) ?_
    refine T_iconst (v := nI 5) d_Mo_mapPart_217 (by decide) ?_
    have r_41 := (ke_40 27 (by decide)).trans ((ke_38 27 (by decide)).trans (vr_36))
    have r_42 := (ke_40 5 (by decide)).trans ((ke_38 5 (by decide)).trans ((ke_36 5 (by decide)).trans ((ke_34 5 (by decide)).trans ((ke_32 5 (by decide)).trans ((ke_30 5 (by decide)).trans ((ke_27 5 (by decide)).trans ((ke_24 5 (by decide)).trans ((ke_20 5 (by decide)).trans ((ke_18 5 (by decide)).trans ((ke_15 5 (by decide)).trans ((ke_13 5 (by decide)).trans ((ke_11 5 (by decide)).trans ((ke_8 5 (by decide)).trans ((ke_6 5 (by decide)).trans ((ke_4 5 (by decide)).trans ((ke_2 5 (by decide)).trans ((ke_1 5 (by decide)).trans (ck.c5))))))))))))))))))
    refine T_virtual (as := [.int (nI 29), .int (nI 27), .int (nI 5)]) (rest := []) (b := 373) d_Mo_mapPart_218 rfl (jw_Mo_mul.jo (by decide)) lm_Mo_163 ji_Mo_mul js_Mo_mul hE_40.ob rfl rfl rfl (Nat.le_of_ble_eq_true rfl) (by decide) (by decide) (u_Mo_mul hE_40 (by decide) (by decide) (by decide) r_41 r_42) (fun r M_43 hq => ?_)
    obtain ⟨rfl, E_43, hE_43, vr_43, ke_43, kp_43⟩ := hq
    obtain ⟨x_43, hx_43⟩ : ∃ z : Int, z = (x_36 * cG) := ⟨_, rfl⟩
    rw [← hx_43] at vr_43
    refine T_eq (pc' := 221) (L' := [(4, .int (nI ((rtG x_8 x_20)))), (0, .ref 373), (1, .int (nI 12)), (2, .ref fr), (3, .int (nI at0))]) (st' := []) (M' := M_43) rfl rfl rfl rfl ?_
    refine T_aload_n (v := .ref 373) d_Mo_mapPart_221 rfl (Or.inr ⟨_, rfl⟩) ?_
    refine T_bipush (v := nI 30) d_Mo_mapPart_222 (by decide) ?_
    refine T_bipush (v := nI 25) d_Mo_mapPart_224 (by decide) ?_
    refine T_bipush (v := nI 25) d_Mo_mapPart_226 (by decide) ?_
    have r_44 := (ke_43 25 (by decide)).trans ((ke_40 25 (by decide)).trans ((ke_38 25 (by decide)).trans (r_37)))
    refine T_virtual (as := [.int (nI 30), .int (nI 25), .int (nI 25)]) (rest := []) (b := 373) d_Mo_mapPart_228 rfl (jw_Mo_mul.jo (by decide)) lm_Mo_163 ji_Mo_mul js_Mo_mul hE_43.ob rfl rfl rfl (Nat.le_of_ble_eq_true rfl) (by decide) (by decide) (u_Mo_mul hE_43 (by decide) (by decide) (by decide) r_44 r_44) (fun r M_45 hq => ?_)
    obtain ⟨rfl, E_45, hE_45, vr_45, ke_45, kp_45⟩ := hq
    obtain ⟨x_45, hx_45⟩ : ∃ z : Int, z = (x_24 * x_24) := ⟨_, rfl⟩
    rw [← hx_45] at vr_45
    refine T_eq (pc' := 231) (L' := [(4, .int (nI ((rtG x_8 x_20)))), (0, .ref 373), (1, .int (nI 12)), (2, .ref fr), (3, .int (nI at0))]) (st' := []) (M' := M_45) rfl rfl rfl rfl ?_
    refine T_aload_n (v := .ref 373) d_Mo_mapPart_231 rfl (Or.inr ⟨_, rfl⟩) ?_
    refine T_bipush (v := nI 31) d_Mo_mapPart_232 (by decide) ?_
    refine T_iconst (v := nI 1) d_Mo_mapPart_234 (by decide) ?_
    refine T_bipush (v := nI 30) d_Mo_mapPart_235 (by decide) ?_
    have r_46 := (ke_45 1 (by decide)).trans ((ke_43 1 (by decide)).trans ((ke_40 1 (by decide)).trans ((ke_38 1 (by decide)).trans ((ke_36 1 (by decide)).trans ((ke_34 1 (by decide)).trans ((ke_32 1 (by decide)).trans ((ke_30 1 (by decide)).trans (r_29))))))))
    refine T_virtual (as := [.int (nI 31), .int (nI 1), .int (nI 30)]) (rest := []) (b := 373) d_Mo_mapPart_237 rfl (jw_Mo_sub.jo (by decide)) lm_Mo_152 ji_Mo_sub js_Mo_sub hE_45.ob rfl rfl rfl (Nat.le_of_ble_eq_true rfl) (by decide) (by decide) (u_Mo_sub hE_45 (by decide) (by decide) (by decide) r_46 vr_45) (fun r M_47 hq => ?_)
    obtain ⟨rfl, E_47, hE_47, vr_47, ke_47, kp_47⟩ := hq
    obtain ⟨x_47, hx_47⟩ : ∃ z : Int, z = (1 - x_45) := ⟨_, rfl⟩
    rw [← hx_47] at vr_47
    refine T_eq (pc' := 240) (L' := [(4, .int (nI ((rtG x_8 x_20)))), (0, .ref 373), (1, .int (nI 12)), (2, .ref fr), (3, .int (nI at0))]) (st' := []) (M' := M_47) rfl rfl rfl rfl ?_
    refine T_aload_n (v := .ref 373) d_Mo_mapPart_240 rfl (Or.inr ⟨_, rfl⟩) ?_
    refine T_bipush (v := nI 30) d_Mo_mapPart_241 (by decide) ?_
    refine T_iconst (v := nI 1) d_Mo_mapPart_243 (by decide) ?_
    refine T_bipush (v := nI 30) d_Mo_mapPart_244 (by decide) ?_
    have r_48 := (ke_47 1 (by decide)).trans (r_46)
    have r_49 := (ke_47 30 (by decide)).trans (vr_45)
    refine T_virtual (as := [.int (nI 30), .int (nI 1), .int (nI 30)]) (rest := []) (b := 373) d_Mo_mapPart_246 rfl (jw_Mo_add.jo (by decide)) lm_Mo_182 ji_Mo_add js_Mo_add hE_47.ob rfl rfl rfl (Nat.le_of_ble_eq_true rfl) (by decide) (by decide) (u_Mo_add hE_47 (by decide) (by decide) (by decide) r_48 r_49) (fun r M_50 hq => ?_)
    obtain ⟨rfl, E_50, hE_50, vr_50, ke_50, kp_50⟩ := hq
    obtain ⟨x_50, hx_50⟩ : ∃ z : Int, z = (1 + x_45) := ⟨_, rfl⟩
    rw [← hx_50] at vr_50
    refine T_eq (pc' := 249) (L' := [(4, .int (nI ((rtG x_8 x_20)))), (0, .ref 373), (1, .int (nI 12)), (2, .ref fr), (3, .int (nI at0))]) (st' := []) (M' := M_50) rfl rfl rfl rfl ?_
    refine T_aload_n (v := .ref 373) d_Mo_mapPart_249 rfl (Or.inr ⟨_, rfl⟩) ?_
    refine T_iload_n d_Mo_mapPart_250 rfl ?_
    refine T_bipush (v := nI 28) d_Mo_mapPart_251 (by decide) ?_
    refine T_bipush (v := nI 30) d_Mo_mapPart_253 (by decide) ?_
    have r_51 := (ke_50 28 (by decide)).trans ((ke_47 28 (by decide)).trans ((ke_45 28 (by decide)).trans ((ke_43 28 (by decide)).trans (vr_40))))
    refine T_virtual (as := [.int (nI 12), .int (nI 28), .int (nI 30)]) (rest := []) (b := 373) d_Mo_mapPart_255 rfl (jw_Mo_mul.jo (by decide)) lm_Mo_163 ji_Mo_mul js_Mo_mul hE_50.ob rfl rfl rfl (Nat.le_of_ble_eq_true rfl) (by decide) (by decide) (u_Mo_mul hE_50 (by decide) (by decide) (by decide) r_51 vr_50) (fun r M_52 hq => ?_)
    obtain ⟨rfl, E_52, hE_52, vr_52, ke_52, kp_52⟩ := hq
    obtain ⟨x_52, hx_52⟩ : ∃ z : Int, z = (x_40 * x_50) := ⟨_, rfl⟩
    rw [← hx_52] at vr_52
    refine T_eq (pc' := 258) (L' := [(4, .int (nI ((rtG x_8 x_20)))), (0, .ref 373), (1, .int (nI 12)), (2, .ref fr), (3, .int (nI at0))]) (st' := []) (M' := M_52) rfl rfl rfl rfl ?_
    refine T_aload_n (v := .ref 373) d_Mo_mapPart_258 rfl (Or.inr ⟨_, rfl⟩) ?_
    refine T_iload_n d_Mo_mapPart_259 rfl ?_
    refine T_iconst (v := nI 1) d_Mo_mapPart_260 (by decide) ?_
    refine N_iadd (a := 1) (b := 12) (c := 13) d_Mo_mapPart_261 rfl ?_
    refine T_bipush (v := nI 31) d_Mo_mapPart_262 (by decide) ?_
    refine T_bipush (v := nI 29) d_Mo_mapPart_264 (by decide) ?_
    have r_53 := (ke_52 31 (by decide)).trans ((ke_50 31 (by decide)).trans (vr_47))
    have r_54 := (ke_52 29 (by decide)).trans ((ke_50 29 (by decide)).trans ((ke_47 29 (by decide)).trans ((ke_45 29 (by decide)).trans (vr_43))))
    refine T_virtual (as := [.int (nI 13), .int (nI 31), .int (nI 29)]) (rest := []) (b := 373) d_Mo_mapPart_266 rfl (jw_Mo_mul.jo (by decide)) lm_Mo_163 ji_Mo_mul js_Mo_mul hE_52.ob rfl rfl rfl (Nat.le_of_ble_eq_true rfl) (by decide) (by decide) (u_Mo_mul hE_52 (by decide) (by decide) (by decide) r_53 r_54) (fun r M_55 hq => ?_)
    obtain ⟨rfl, E_55, hE_55, vr_55, ke_55, kp_55⟩ := hq
    obtain ⟨x_55, hx_55⟩ : ∃ z : Int, z = (x_47 * x_43) := ⟨_, rfl⟩
    rw [← hx_55] at vr_55
    refine T_eq (pc' := 269) (L' := [(4, .int (nI ((rtG x_8 x_20)))), (0, .ref 373), (1, .int (nI 12)), (2, .ref fr), (3, .int (nI at0))]) (st' := []) (M' := M_55) rfl rfl rfl rfl ?_
    refine T_aload_n (v := .ref 373) d_Mo_mapPart_269 rfl (Or.inr ⟨_, rfl⟩) ?_
    refine T_iload_n d_Mo_mapPart_270 rfl ?_
    refine T_iconst (v := nI 2) d_Mo_mapPart_271 (by decide) ?_
    refine N_iadd (a := 2) (b := 12) (c := 14) d_Mo_mapPart_272 rfl ?_
    refine T_bipush (v := nI 29) d_Mo_mapPart_273 (by decide) ?_
    refine T_bipush (v := nI 30) d_Mo_mapPart_275 (by decide) ?_
    have r_56 := (ke_55 29 (by decide)).trans (r_54)
    have r_57 := (ke_55 30 (by decide)).trans ((ke_52 30 (by decide)).trans (vr_50))
    refine T_virtual (as := [.int (nI 14), .int (nI 29), .int (nI 30)]) (rest := []) (b := 373) d_Mo_mapPart_277 rfl (jw_Mo_mul.jo (by decide)) lm_Mo_163 ji_Mo_mul js_Mo_mul hE_55.ob rfl rfl rfl (Nat.le_of_ble_eq_true rfl) (by decide) (by decide) (u_Mo_mul hE_55 (by decide) (by decide) (by decide) r_56 r_57) (fun r M_58 hq => ?_)
    obtain ⟨rfl, E_58, hE_58, vr_58, ke_58, kp_58⟩ := hq
    obtain ⟨x_58, hx_58⟩ : ∃ z : Int, z = (x_43 * x_50) := ⟨_, rfl⟩
    rw [← hx_58] at vr_58
    refine T_eq (pc' := 280) (L' := [(4, .int (nI ((rtG x_8 x_20)))), (0, .ref 373), (1, .int (nI 12)), (2, .ref fr), (3, .int (nI at0))]) (st' := []) (M' := M_58) rfl rfl rfl rfl ?_
    refine T_aload_n (v := .ref 373) d_Mo_mapPart_280 rfl (Or.inr ⟨_, rfl⟩) ?_
    refine T_iload_n d_Mo_mapPart_281 rfl ?_
    refine T_iconst (v := nI 3) d_Mo_mapPart_282 (by decide) ?_
    refine N_iadd (a := 3) (b := 12) (c := 15) d_Mo_mapPart_283 rfl ?_
    refine T_bipush (v := nI 28) d_Mo_mapPart_284 (by decide) ?_
    refine T_bipush (v := nI 31) d_Mo_mapPart_286 (by decide) ?_
    have r_59 := (ke_58 28 (by decide)).trans ((ke_55 28 (by decide)).trans ((ke_52 28 (by decide)).trans (r_51)))
    have r_60 := (ke_58 31 (by decide)).trans ((ke_55 31 (by decide)).trans (r_53))
    refine T_virtual (as := [.int (nI 15), .int (nI 28), .int (nI 31)]) (rest := []) (b := 373) d_Mo_mapPart_288 rfl (jw_Mo_mul.jo (by decide)) lm_Mo_163 ji_Mo_mul js_Mo_mul hE_58.ob rfl rfl rfl (Nat.le_of_ble_eq_true rfl) (by decide) (by decide) (u_Mo_mul hE_58 (by decide) (by decide) (by decide) r_59 r_60) (fun r M_61 hq => ?_)
    obtain ⟨rfl, E_61, hE_61, vr_61, ke_61, kp_61⟩ := hq
    obtain ⟨x_61, hx_61⟩ : ∃ z : Int, z = (x_40 * x_47) := ⟨_, rfl⟩
    rw [← hx_61] at vr_61
    refine T_eq (pc' := 291) (L' := [(4, .int (nI ((rtG x_8 x_20)))), (0, .ref 373), (1, .int (nI 12)), (2, .ref fr), (3, .int (nI at0))]) (st' := []) (M' := M_61) rfl rfl rfl rfl ?_
    have t0 : ph x_1 = ph (num32 (fun k => (b k : Int)) % n255) := by rw [hx_1]
    generalize ph (num32 (fun k => (b k : Int)) % n255) = t at *
    have r1 : ph x_4 = t * t * fI := by rw [hx_4, ph_mul, hx_2, ph_mul, t0, ph_cI]
    generalize hr : t * t * fI = r at r1
    have uu : ph x_8 = gU_ r := by rw [hx_8, ph_mul, hx_6, ph_add, r1, ph_1, ph_cO]; rfl
    have vv : ph x_20 = gV_ r := by rw [hx_20, ph_mul, hx_15, ph_zs, hx_13, ph_add, hx_11, ph_mul, hx_18, ph_add, r1, ph_1, ph_cD]; rfl
    have rr : ph x_24 = rR (gU_ r) (gV_ r) := by rw [hx_24, ph_rt, uu, vv]
    have gi := rtG_1 x_8 x_20
    rw [uu, vv] at gi
    have gd : rG (gU_ r) (gV_ r) := gi.mp (by omega)
    have ss : ph x_24 = gS_ t r := by rw [rr]; unfold gS_; rw [if_pos gd]
    have cc : ph x_27 = gC_ t r := by rw [hx_27, ph_zs, ph_1]; unfold gC_; rw [if_pos gd]
    have nn : ph x_36 = gN_ t r := by
      rw [hx_36, ph_sub, vv, hx_34, ph_mul, hx_32, ph_mul, hx_30, ph_sub, cc, r1, ph_1, ph_cL]; unfold gN_; grind -lia -linarith
    have w0 : ph x_40 = (gS_ t r + gS_ t r) * gV_ r := by rw [hx_40, ph_mul, hx_38, ph_add, ss, vv]
    have w1 : ph x_43 = gN_ t r * fG := by rw [hx_43, ph_mul, nn, ph_cG]
    have w3 : ph x_50 = 1 + gS_ t r * gS_ t r := by rw [hx_50, ph_add, hx_45, ph_mul, ss, ph_1]
    have w2 : ph x_47 = 1 - gS_ t r * gS_ t r := by rw [hx_47, ph_sub, hx_45, ph_mul, ss, ph_1]
    have q0 : ph x_52 = gX_ t := by unfold gX_; rw [hr, hx_52, ph_mul, w0, w3]
    have q1 : ph x_55 = gY_ t := by unfold gY_; rw [hr, hx_55, ph_mul, w2, w1]
    have q2 : ph x_58 = gZ_ t := by unfold gZ_; rw [hr, hx_58, ph_mul, w1, w3]
    have q3 : ph x_61 = gT_ t := by unfold gT_; rw [hr, hx_61, ph_mul, w0, w2]
    have r_62 := (ke_61 12 (by decide)).trans ((ke_58 12 (by decide)).trans ((ke_55 12 (by decide)).trans (vr_52)))
    have r_63 := (ke_61 13 (by decide)).trans ((ke_58 13 (by decide)).trans (vr_55))
    have r_64 := (ke_61 14 (by decide)).trans (vr_58)
    exact T_vret d_Mo_mapPart_291 rfl (by decide) (by decide) ⟨rfl, _, _, _, _, ⟨q0, q1, q2, q3⟩, E_61, hE_61, ⟨r_62, r_63, r_64, vr_61⟩, (KE.tr (KE.tr (KE.tr (KE.tr (KE.tr (KE.tr (KE.tr (KE.tr (KE.tr (KE.tr (KE.tr (KE.tr (KE.tr (KE.tr (KE.tr (KE.tr (KE.tr (KE.tr (KE.tr (KE.tr (KE.tr (KE.tr (KE.tr (KE.tr (KE.tr (KE.tr (KE.rf : KE [20, 21, 22, 23, 24, 25, 26, 27, 28, 29, 30, 31, 50, 51, 52, 53, 54, 55, 56, 61, 62, 63, 12, 13, 14, 15] E E) (KE.mono ke_1 (by decide))) (KE.mono ke_2 (by decide))) (KE.mono ke_4 (by decide))) (KE.mono ke_6 (by decide))) (KE.mono ke_8 (by decide))) (KE.mono ke_11 (by decide))) (KE.mono ke_13 (by decide))) (KE.mono ke_15 (by decide))) (KE.mono ke_18 (by decide))) (KE.mono ke_20 (by decide))) (KE.mono ke_24 (by decide))) (KE.mono ke_27 (by decide))) (KE.mono ke_30 (by decide))) (KE.mono ke_32 (by decide))) (KE.mono ke_34 (by decide))) (KE.mono ke_36 (by decide))) (KE.mono ke_38 (by decide))) (KE.mono ke_40 (by decide))) (KE.mono ke_43 (by decide))) (KE.mono ke_45 (by decide))) (KE.mono ke_47 (by decide))) (KE.mono ke_50 (by decide))) (KE.mono ke_52 (by decide))) (KE.mono ke_55 (by decide))) (KE.mono ke_58 (by decide))) (KE.mono ke_61 (by decide))), (Kp.tr (Kp.tr (Kp.tr (Kp.tr (Kp.tr (Kp.tr (Kp.tr (Kp.tr (Kp.tr (Kp.tr (Kp.tr (Kp.tr (Kp.tr (Kp.tr (Kp.tr (Kp.tr (Kp.tr (Kp.tr (Kp.tr (Kp.tr (Kp.tr (Kp.tr (Kp.tr (Kp.tr (Kp.tr (Kp.tr (Kp.rf : Kp [390, 391, 392, 393, 394] M M) (Kp.mono kp_1 (by decide))) (Kp.mono kp_2 (by decide))) (Kp.mono kp_4 (by decide))) (Kp.mono kp_6 (by decide))) (Kp.mono kp_8 (by decide))) (Kp.mono kp_11 (by decide))) (Kp.mono kp_13 (by decide))) (Kp.mono kp_15 (by decide))) (Kp.mono kp_18 (by decide))) (Kp.mono kp_20 (by decide))) (Kp.mono kp_24 (by decide))) (Kp.mono kp_27 (by decide))) (Kp.mono kp_30 (by decide))) (Kp.mono kp_32 (by decide))) (Kp.mono kp_34 (by decide))) (Kp.mono kp_36 (by decide))) (Kp.mono kp_38 (by decide))) (Kp.mono kp_40 (by decide))) (Kp.mono kp_43 (by decide))) (Kp.mono kp_45 (by decide))) (Kp.mono kp_47 (by decide))) (Kp.mono kp_50 (by decide))) (Kp.mono kp_52 (by decide))) (Kp.mono kp_55 (by decide))) (Kp.mono kp_58 (by decide))) (Kp.mono kp_61 (by decide)))⟩
  ·
    refine T_aload_n (v := .ref 373) d_Mo_mapPart_117 rfl (Or.inr ⟨_, rfl⟩) ?_
    refine T_bipush (v := nI 25) d_Mo_mapPart_118 (by decide) ?_
    refine T_bipush (v := nI 25) d_Mo_mapPart_120 (by decide) ?_
    refine T_bipush (v := nI 20) d_Mo_mapPart_122 (by decide) ?_
    have r_65 := (ke_27 25 (by decide)).trans (vr_24)
    have r_66 := (ke_27 20 (by decide)).trans ((ke_24 20 (by decide)).trans ((ke_20 20 (by decide)).trans ((ke_18 20 (by decide)).trans ((ke_15 20 (by decide)).trans ((ke_13 20 (by decide)).trans ((ke_11 20 (by decide)).trans ((ke_8 20 (by decide)).trans ((ke_6 20 (by decide)).trans ((ke_4 20 (by decide)).trans ((ke_2 20 (by decide)).trans (vr_1)))))))))))
    refine T_virtual (as := [.int (nI 25), .int (nI 25), .int (nI 20)]) (rest := []) (b := 373) d_Mo_mapPart_124 rfl (jw_Mo_mul.jo (by decide)) lm_Mo_163 ji_Mo_mul js_Mo_mul hE_27.ob rfl rfl rfl (Nat.le_of_ble_eq_true rfl) (by decide) (by decide) (u_Mo_mul hE_27 (by decide) (by decide) (by decide) r_65 r_66) (fun r M_67 hq => ?_)
    obtain ⟨rfl, E_67, hE_67, vr_67, ke_67, kp_67⟩ := hq
    obtain ⟨x_67, hx_67⟩ : ∃ z : Int, z = (x_24 * x_1) := ⟨_, rfl⟩
    rw [← hx_67] at vr_67
    refine T_eq (pc' := 127) (L' := [(4, .int (nI ((rtG x_8 x_20)))), (0, .ref 373), (1, .int (nI 12)), (2, .ref fr), (3, .int (nI at0))]) (st' := []) (M' := M_67) rfl rfl rfl rfl ?_
    refine T_aload_n (v := .ref 373) d_Mo_mapPart_127 rfl (Or.inr ⟨_, rfl⟩) ?_
    refine T_bipush (v := nI 25) d_Mo_mapPart_128 (by decide) ?_
    refine T_virtual (as := [.int (nI 25)]) (rest := []) (b := 373) d_Mo_mapPart_130 rfl (jw_Mo_odd.jo (by decide)) lm_Mo_174 ji_Mo_odd js_Mo_odd hE_67.ob rfl rfl rfl (Nat.le_of_ble_eq_true rfl) (by decide) (by decide) (u_Mo_odd hE_67 (by decide) vr_67) (fun r M_68 hq => ?_)
    obtain ⟨rfl, pk_68, E_68, hE_68, ke_68, kp_68⟩ := hq
    by_cases hb_68 : (x_67 % pP) % 2 = 1
    · rw [if_pos hb_68]
      refine T_eq (pc' := 133) (L' := [(4, .int (nI ((rtG x_8 x_20)))), (0, .ref 373), (1, .int (nI 12)), (2, .ref fr), (3, .int (nI at0))]) (st' := [.int (nI 1)]) (M' := M_68) rfl rfl rfl rfl ?_
      refine N_if_ne_t (b := 1) d_Mo_mapPart_133 (tgt := 145) rfl (by omega) (by omega) ?_
      refine T_aload_n (v := .ref 373) d_Mo_mapPart_145 rfl (Or.inr ⟨_, rfl⟩) ?_
      refine T_bipush (v := nI 26) d_Mo_mapPart_146 (by decide) ?_
      refine T_bipush (v := nI 21) d_Mo_mapPart_148 (by decide) ?_
      have r_69 := (ke_68 21 (by decide)).trans ((ke_67 21 (by decide)).trans ((ke_27 21 (by decide)).trans ((ke_24 21 (by decide)).trans ((ke_20 21 (by decide)).trans ((ke_18 21 (by decide)).trans (r_16))))))
      refine T_virtual (as := [.int (nI 26), .int (nI 21)]) (rest := []) (b := 373) d_Mo_mapPart_150 rfl (jw_Mo_set.jo (by decide)) lm_Mo_160 ji_Mo_set js_Mo_set hE_68.ob rfl rfl rfl (Nat.le_of_ble_eq_true rfl) (by decide) (by decide) (u_Mo_set hE_68 (by decide) (by decide) r_69) (fun r M_70 hq => ?_)
      obtain ⟨rfl, E_70, hE_70, vr_70, ke_70, kp_70⟩ := hq
      obtain ⟨x_70, hx_70⟩ : ∃ z : Int, z = x_4 := ⟨_, rfl⟩
      rw [← hx_70] at vr_70
      refine T_eq (pc' := 153) (L' := [(4, .int (nI ((rtG x_8 x_20)))), (0, .ref 373), (1, .int (nI 12)), (2, .ref fr), (3, .int (nI at0))]) (st' := []) (M' := M_70) rfl rfl rfl rfl ?_
      refine T_aload_n (v := .ref 373) d_Mo_mapPart_153 rfl (Or.inr ⟨_, rfl⟩) ?_
      refine T_bipush (v := nI 27) d_Mo_mapPart_154 (by decide) ?_
      refine T_bipush (v := nI 21) d_Mo_mapPart_156 (by decide) ?_
      refine T_iconst (v := nI 1) d_Mo_mapPart_158 (by decide) ?_
      have r_71 := (ke_70 21 (by decide)).trans (r_69)
      have r_72 := (ke_70 1 (by decide)).trans ((ke_68 1 (by decide)).trans ((ke_67 1 (by decide)).trans ((ke_27 1 (by decide)).trans (r_26))))
      refine T_virtual (as := [.int (nI 27), .int (nI 21), .int (nI 1)]) (rest := []) (b := 373) d_Mo_mapPart_159 rfl (jw_Mo_sub.jo (by decide)) lm_Mo_152 ji_Mo_sub js_Mo_sub hE_70.ob rfl rfl rfl (Nat.le_of_ble_eq_true rfl) (by decide) (by decide) (u_Mo_sub hE_70 (by decide) (by decide) (by decide) r_71 r_72) (fun r M_73 hq => ?_)
      obtain ⟨rfl, E_73, hE_73, vr_73, ke_73, kp_73⟩ := hq
      obtain ⟨x_73, hx_73⟩ : ∃ z : Int, z = (x_4 - 1) := ⟨_, rfl⟩
      rw [← hx_73] at vr_73
      refine T_eq (pc' := 162) (L' := [(4, .int (nI ((rtG x_8 x_20)))), (0, .ref 373), (1, .int (nI 12)), (2, .ref fr), (3, .int (nI at0))]) (st' := []) (M' := M_73) rfl rfl rfl rfl ?_
      refine T_aload_n (v := .ref 373) d_Mo_mapPart_162 rfl (Or.inr ⟨_, rfl⟩) ?_
      refine T_bipush (v := nI 27) d_Mo_mapPart_163 (by decide) ?_
      refine T_bipush (v := nI 27) d_Mo_mapPart_165 (by decide) ?_
      refine T_bipush (v := nI 26) d_Mo_mapPart_167 (by decide) ?_
      have r_74 := (ke_73 26 (by decide)).trans (vr_70)
      refine T_virtual (as := [.int (nI 27), .int (nI 27), .int (nI 26)]) (rest := []) (b := 373) d_Mo_mapPart_169 rfl (jw_Mo_mul.jo (by decide)) lm_Mo_163 ji_Mo_mul js_Mo_mul hE_73.ob rfl rfl rfl (Nat.le_of_ble_eq_true rfl) (by decide) (by decide) (u_Mo_mul hE_73 (by decide) (by decide) (by decide) vr_73 r_74) (fun r M_75 hq => ?_)
      obtain ⟨rfl, E_75, hE_75, vr_75, ke_75, kp_75⟩ := hq
      obtain ⟨x_75, hx_75⟩ : ∃ z : Int, z = (x_73 * x_70) := ⟨_, rfl⟩
      rw [← hx_75] at vr_75
      refine T_eq (pc' := 172) (L' := [(4, .int (nI ((rtG x_8 x_20)))), (0, .ref 373), (1, .int (nI 12)), (2, .ref fr), (3, .int (nI at0))]) (st' := []) (M' := M_75) rfl rfl rfl rfl ?_
      refine T_aload_n (v := .ref 373) d_Mo_mapPart_172 rfl (Or.inr ⟨_, rfl⟩) ?_
      refine T_bipush (v := nI 27) d_Mo_mapPart_173 (by decide) ?_
      refine T_bipush (v := nI 27) d_Mo_mapPart_175 (by decide) ?_
      refine T_bipush (v := nI 7) d_Mo_mapPart_177 (by decide) ?_
      have r_76 := (ke_75 7 (by decide)).trans ((ke_73 7 (by decide)).trans ((ke_70 7 (by decide)).trans ((ke_68 7 (by decide)).trans ((ke_67 7 (by decide)).trans ((ke_27 7 (by decide)).trans ((ke_24 7 (by decide)).trans ((ke_20 7 (by decide)).trans ((ke_18 7 (by decide)).trans ((ke_15 7 (by decide)).trans ((ke_13 7 (by decide)).trans ((ke_11 7 (by decide)).trans ((ke_8 7 (by decide)).trans ((ke_6 7 (by decide)).trans ((ke_4 7 (by decide)).trans ((ke_2 7 (by decide)).trans ((ke_1 7 (by decide)).trans (ck.c7)))))))))))))))))
      refine T_virtual (as := [.int (nI 27), .int (nI 27), .int (nI 7)]) (rest := []) (b := 373) d_Mo_mapPart_179 rfl (jw_Mo_mul.jo (by decide)) lm_Mo_163 ji_Mo_mul js_Mo_mul hE_75.ob rfl rfl rfl (Nat.le_of_ble_eq_true rfl) (by decide) (by decide) (u_Mo_mul hE_75 (by decide) (by decide) (by decide) vr_75 r_76) (fun r M_77 hq => ?_)
      obtain ⟨rfl, E_77, hE_77, vr_77, ke_77, kp_77⟩ := hq
      obtain ⟨x_77, hx_77⟩ : ∃ z : Int, z = (x_75 * cL) := ⟨_, rfl⟩
      rw [← hx_77] at vr_77
      refine T_eq (pc' := 182) (L' := [(4, .int (nI ((rtG x_8 x_20)))), (0, .ref 373), (1, .int (nI 12)), (2, .ref fr), (3, .int (nI at0))]) (st' := []) (M' := M_77) rfl rfl rfl rfl ?_
      refine T_aload_n (v := .ref 373) d_Mo_mapPart_182 rfl (Or.inr ⟨_, rfl⟩) ?_
      refine T_bipush (v := nI 27) d_Mo_mapPart_183 (by decide) ?_
      refine T_bipush (v := nI 27) d_Mo_mapPart_185 (by decide) ?_
      refine T_bipush (v := nI 23) d_Mo_mapPart_187 (by decide) ?_
      have r_78 := (ke_77 23 (by decide)).trans ((ke_75 23 (by decide)).trans ((ke_73 23 (by decide)).trans ((ke_70 23 (by decide)).trans ((ke_68 23 (by decide)).trans ((ke_67 23 (by decide)).trans ((ke_27 23 (by decide)).trans ((ke_24 23 (by decide)).trans (vr_20))))))))
      refine T_virtual (as := [.int (nI 27), .int (nI 27), .int (nI 23)]) (rest := []) (b := 373) d_Mo_mapPart_189 rfl (jw_Mo_sub.jo (by decide)) lm_Mo_152 ji_Mo_sub js_Mo_sub hE_77.ob rfl rfl rfl (Nat.le_of_ble_eq_true rfl) (by decide) (by decide) (u_Mo_sub hE_77 (by decide) (by decide) (by decide) vr_77 r_78) (fun r M_79 hq => ?_)
      obtain ⟨rfl, E_79, hE_79, vr_79, ke_79, kp_79⟩ := hq
      obtain ⟨x_79, hx_79⟩ : ∃ z : Int, z = (x_77 - x_20) := ⟨_, rfl⟩
      rw [← hx_79] at vr_79
      refine T_eq (pc' := 192) (L' := [(4, .int (nI ((rtG x_8 x_20)))), (0, .ref 373), (1, .int (nI 12)), (2, .ref fr), (3, .int (nI at0))]) (st' := []) (M' := M_79) rfl rfl rfl rfl ?_
      refine T_aload_n (v := .ref 373) d_Mo_mapPart_192 rfl (Or.inr ⟨_, rfl⟩) ?_
      refine T_bipush (v := nI 28) d_Mo_mapPart_193 (by decide) ?_
      refine T_bipush (v := nI 25) d_Mo_mapPart_195 (by decide) ?_
      refine T_bipush (v := nI 25) d_Mo_mapPart_197 (by decide) ?_
      have r_80 := (ke_79 25 (by decide)).trans ((ke_77 25 (by decide)).trans ((ke_75 25 (by decide)).trans ((ke_73 25 (by decide)).trans ((ke_70 25 (by decide)).trans ((ke_68 25 (by decide)).trans (vr_67))))))
      refine T_virtual (as := [.int (nI 28), .int (nI 25), .int (nI 25)]) (rest := []) (b := 373) d_Mo_mapPart_199 rfl (jw_Mo_add.jo (by decide)) lm_Mo_182 ji_Mo_add js_Mo_add hE_79.ob rfl rfl rfl (Nat.le_of_ble_eq_true rfl) (by decide) (by decide) (u_Mo_add hE_79 (by decide) (by decide) (by decide) r_80 r_80) (fun r M_81 hq => ?_)
      obtain ⟨rfl, E_81, hE_81, vr_81, ke_81, kp_81⟩ := hq
      obtain ⟨x_81, hx_81⟩ : ∃ z : Int, z = (x_67 + x_67) := ⟨_, rfl⟩
      rw [← hx_81] at vr_81
      refine T_eq (pc' := 202) (L' := [(4, .int (nI ((rtG x_8 x_20)))), (0, .ref 373), (1, .int (nI 12)), (2, .ref fr), (3, .int (nI at0))]) (st' := []) (M' := M_81) rfl rfl rfl rfl ?_
      refine T_aload_n (v := .ref 373) d_Mo_mapPart_202 rfl (Or.inr ⟨_, rfl⟩) ?_
      refine T_bipush (v := nI 28) d_Mo_mapPart_203 (by decide) ?_
      refine T_bipush (v := nI 28) d_Mo_mapPart_205 (by decide) ?_
      refine T_bipush (v := nI 23) d_Mo_mapPart_207 (by decide) ?_
      have r_82 := (ke_81 23 (by decide)).trans ((ke_79 23 (by decide)).trans (r_78))
      refine T_virtual (as := [.int (nI 28), .int (nI 28), .int (nI 23)]) (rest := []) (b := 373) d_Mo_mapPart_209 rfl (jw_Mo_mul.jo (by decide)) lm_Mo_163 ji_Mo_mul js_Mo_mul hE_81.ob rfl rfl rfl (Nat.le_of_ble_eq_true rfl) (by decide) (by decide) (u_Mo_mul hE_81 (by decide) (by decide) (by decide) vr_81 r_82) (fun r M_83 hq => ?_)
      obtain ⟨rfl, E_83, hE_83, vr_83, ke_83, kp_83⟩ := hq
      obtain ⟨x_83, hx_83⟩ : ∃ z : Int, z = (x_81 * x_20) := ⟨_, rfl⟩
      rw [← hx_83] at vr_83
      refine T_eq (pc' := 212) (L' := [(4, .int (nI ((rtG x_8 x_20)))), (0, .ref 373), (1, .int (nI 12)), (2, .ref fr), (3, .int (nI at0))]) (st' := []) (M' := M_83) rfl rfl rfl rfl ?_
      refine T_aload_n (v := .ref 373) d_Mo_mapPart_212 rfl (Or.inr ⟨_, rfl⟩) ?_
      refine T_bipush (v := nI 29) d_Mo_mapPart_213 (by decide) ?_
      refine T_bipush (v := nI 27) d_Mo_mapPart_215 (by decide) ?_
      refine T_iconst (v := nI 5) d_Mo_mapPart_217 (by decide) ?_
      have r_84 := (ke_83 27 (by decide)).trans ((ke_81 27 (by decide)).trans (vr_79))
      have r_85 := (ke_83 5 (by decide)).trans ((ke_81 5 (by decide)).trans ((ke_79 5 (by decide)).trans ((ke_77 5 (by decide)).trans ((ke_75 5 (by decide)).trans ((ke_73 5 (by decide)).trans ((ke_70 5 (by decide)).trans ((ke_68 5 (by decide)).trans ((ke_67 5 (by decide)).trans ((ke_27 5 (by decide)).trans ((ke_24 5 (by decide)).trans ((ke_20 5 (by decide)).trans ((ke_18 5 (by decide)).trans ((ke_15 5 (by decide)).trans ((ke_13 5 (by decide)).trans ((ke_11 5 (by decide)).trans ((ke_8 5 (by decide)).trans ((ke_6 5 (by decide)).trans ((ke_4 5 (by decide)).trans ((ke_2 5 (by decide)).trans ((ke_1 5 (by decide)).trans (ck.c5)))))))))))))))))))))
      refine T_virtual (as := [.int (nI 29), .int (nI 27), .int (nI 5)]) (rest := []) (b := 373) d_Mo_mapPart_218 rfl (jw_Mo_mul.jo (by decide)) lm_Mo_163 ji_Mo_mul js_Mo_mul hE_83.ob rfl rfl rfl (Nat.le_of_ble_eq_true rfl) (by decide) (by decide) (u_Mo_mul hE_83 (by decide) (by decide) (by decide) r_84 r_85) (fun r M_86 hq => ?_)
      obtain ⟨rfl, E_86, hE_86, vr_86, ke_86, kp_86⟩ := hq
      obtain ⟨x_86, hx_86⟩ : ∃ z : Int, z = (x_79 * cG) := ⟨_, rfl⟩
      rw [← hx_86] at vr_86
      refine T_eq (pc' := 221) (L' := [(4, .int (nI ((rtG x_8 x_20)))), (0, .ref 373), (1, .int (nI 12)), (2, .ref fr), (3, .int (nI at0))]) (st' := []) (M' := M_86) rfl rfl rfl rfl ?_
      refine T_aload_n (v := .ref 373) d_Mo_mapPart_221 rfl (Or.inr ⟨_, rfl⟩) ?_
      refine T_bipush (v := nI 30) d_Mo_mapPart_222 (by decide) ?_
      refine T_bipush (v := nI 25) d_Mo_mapPart_224 (by decide) ?_
      refine T_bipush (v := nI 25) d_Mo_mapPart_226 (by decide) ?_
      have r_87 := (ke_86 25 (by decide)).trans ((ke_83 25 (by decide)).trans ((ke_81 25 (by decide)).trans (r_80)))
      refine T_virtual (as := [.int (nI 30), .int (nI 25), .int (nI 25)]) (rest := []) (b := 373) d_Mo_mapPart_228 rfl (jw_Mo_mul.jo (by decide)) lm_Mo_163 ji_Mo_mul js_Mo_mul hE_86.ob rfl rfl rfl (Nat.le_of_ble_eq_true rfl) (by decide) (by decide) (u_Mo_mul hE_86 (by decide) (by decide) (by decide) r_87 r_87) (fun r M_88 hq => ?_)
      obtain ⟨rfl, E_88, hE_88, vr_88, ke_88, kp_88⟩ := hq
      obtain ⟨x_88, hx_88⟩ : ∃ z : Int, z = (x_67 * x_67) := ⟨_, rfl⟩
      rw [← hx_88] at vr_88
      refine T_eq (pc' := 231) (L' := [(4, .int (nI ((rtG x_8 x_20)))), (0, .ref 373), (1, .int (nI 12)), (2, .ref fr), (3, .int (nI at0))]) (st' := []) (M' := M_88) rfl rfl rfl rfl ?_
      refine T_aload_n (v := .ref 373) d_Mo_mapPart_231 rfl (Or.inr ⟨_, rfl⟩) ?_
      refine T_bipush (v := nI 31) d_Mo_mapPart_232 (by decide) ?_
      refine T_iconst (v := nI 1) d_Mo_mapPart_234 (by decide) ?_
      refine T_bipush (v := nI 30) d_Mo_mapPart_235 (by decide) ?_
      have r_89 := (ke_88 1 (by decide)).trans ((ke_86 1 (by decide)).trans ((ke_83 1 (by decide)).trans ((ke_81 1 (by decide)).trans ((ke_79 1 (by decide)).trans ((ke_77 1 (by decide)).trans ((ke_75 1 (by decide)).trans ((ke_73 1 (by decide)).trans (r_72))))))))
      refine T_virtual (as := [.int (nI 31), .int (nI 1), .int (nI 30)]) (rest := []) (b := 373) d_Mo_mapPart_237 rfl (jw_Mo_sub.jo (by decide)) lm_Mo_152 ji_Mo_sub js_Mo_sub hE_88.ob rfl rfl rfl (Nat.le_of_ble_eq_true rfl) (by decide) (by decide) (u_Mo_sub hE_88 (by decide) (by decide) (by decide) r_89 vr_88) (fun r M_90 hq => ?_)
      obtain ⟨rfl, E_90, hE_90, vr_90, ke_90, kp_90⟩ := hq
      obtain ⟨x_90, hx_90⟩ : ∃ z : Int, z = (1 - x_88) := ⟨_, rfl⟩
      rw [← hx_90] at vr_90
      refine T_eq (pc' := 240) (L' := [(4, .int (nI ((rtG x_8 x_20)))), (0, .ref 373), (1, .int (nI 12)), (2, .ref fr), (3, .int (nI at0))]) (st' := []) (M' := M_90) rfl rfl rfl rfl ?_
      refine T_aload_n (v := .ref 373) d_Mo_mapPart_240 rfl (Or.inr ⟨_, rfl⟩) ?_
      refine T_bipush (v := nI 30) d_Mo_mapPart_241 (by decide) ?_
      refine T_iconst (v := nI 1) d_Mo_mapPart_243 (by decide) ?_
      refine T_bipush (v := nI 30) d_Mo_mapPart_244 (by decide) ?_
      have r_91 := (ke_90 1 (by decide)).trans (r_89)
      have r_92 := (ke_90 30 (by decide)).trans (vr_88)
      refine T_virtual (as := [.int (nI 30), .int (nI 1), .int (nI 30)]) (rest := []) (b := 373) d_Mo_mapPart_246 rfl (jw_Mo_add.jo (by decide)) lm_Mo_182 ji_Mo_add js_Mo_add hE_90.ob rfl rfl rfl (Nat.le_of_ble_eq_true rfl) (by decide) (by decide) (u_Mo_add hE_90 (by decide) (by decide) (by decide) r_91 r_92) (fun r M_93 hq => ?_)
      obtain ⟨rfl, E_93, hE_93, vr_93, ke_93, kp_93⟩ := hq
      obtain ⟨x_93, hx_93⟩ : ∃ z : Int, z = (1 + x_88) := ⟨_, rfl⟩
      rw [← hx_93] at vr_93
      refine T_eq (pc' := 249) (L' := [(4, .int (nI ((rtG x_8 x_20)))), (0, .ref 373), (1, .int (nI 12)), (2, .ref fr), (3, .int (nI at0))]) (st' := []) (M' := M_93) rfl rfl rfl rfl ?_
      refine T_aload_n (v := .ref 373) d_Mo_mapPart_249 rfl (Or.inr ⟨_, rfl⟩) ?_
      refine T_iload_n d_Mo_mapPart_250 rfl ?_
      refine T_bipush (v := nI 28) d_Mo_mapPart_251 (by decide) ?_
      refine T_bipush (v := nI 30) d_Mo_mapPart_253 (by decide) ?_
      have r_94 := (ke_93 28 (by decide)).trans ((ke_90 28 (by decide)).trans ((ke_88 28 (by decide)).trans ((ke_86 28 (by decide)).trans (vr_83))))
      refine T_virtual (as := [.int (nI 12), .int (nI 28), .int (nI 30)]) (rest := []) (b := 373) d_Mo_mapPart_255 rfl (jw_Mo_mul.jo (by decide)) lm_Mo_163 ji_Mo_mul js_Mo_mul hE_93.ob rfl rfl rfl (Nat.le_of_ble_eq_true rfl) (by decide) (by decide) (u_Mo_mul hE_93 (by decide) (by decide) (by decide) r_94 vr_93) (fun r M_95 hq => ?_)
      obtain ⟨rfl, E_95, hE_95, vr_95, ke_95, kp_95⟩ := hq
      obtain ⟨x_95, hx_95⟩ : ∃ z : Int, z = (x_83 * x_93) := ⟨_, rfl⟩
      rw [← hx_95] at vr_95
      refine T_eq (pc' := 258) (L' := [(4, .int (nI ((rtG x_8 x_20)))), (0, .ref 373), (1, .int (nI 12)), (2, .ref fr), (3, .int (nI at0))]) (st' := []) (M' := M_95) rfl rfl rfl rfl ?_
      refine T_aload_n (v := .ref 373) d_Mo_mapPart_258 rfl (Or.inr ⟨_, rfl⟩) ?_
      refine T_iload_n d_Mo_mapPart_259 rfl ?_
      refine T_iconst (v := nI 1) d_Mo_mapPart_260 (by decide) ?_
      refine N_iadd (a := 1) (b := 12) (c := 13) d_Mo_mapPart_261 rfl ?_
      refine T_bipush (v := nI 31) d_Mo_mapPart_262 (by decide) ?_
      refine T_bipush (v := nI 29) d_Mo_mapPart_264 (by decide) ?_
      have r_96 := (ke_95 31 (by decide)).trans ((ke_93 31 (by decide)).trans (vr_90))
      have r_97 := (ke_95 29 (by decide)).trans ((ke_93 29 (by decide)).trans ((ke_90 29 (by decide)).trans ((ke_88 29 (by decide)).trans (vr_86))))
      refine T_virtual (as := [.int (nI 13), .int (nI 31), .int (nI 29)]) (rest := []) (b := 373) d_Mo_mapPart_266 rfl (jw_Mo_mul.jo (by decide)) lm_Mo_163 ji_Mo_mul js_Mo_mul hE_95.ob rfl rfl rfl (Nat.le_of_ble_eq_true rfl) (by decide) (by decide) (u_Mo_mul hE_95 (by decide) (by decide) (by decide) r_96 r_97) (fun r M_98 hq => ?_)
      obtain ⟨rfl, E_98, hE_98, vr_98, ke_98, kp_98⟩ := hq
      obtain ⟨x_98, hx_98⟩ : ∃ z : Int, z = (x_90 * x_86) := ⟨_, rfl⟩
      rw [← hx_98] at vr_98
      refine T_eq (pc' := 269) (L' := [(4, .int (nI ((rtG x_8 x_20)))), (0, .ref 373), (1, .int (nI 12)), (2, .ref fr), (3, .int (nI at0))]) (st' := []) (M' := M_98) rfl rfl rfl rfl ?_
      refine T_aload_n (v := .ref 373) d_Mo_mapPart_269 rfl (Or.inr ⟨_, rfl⟩) ?_
      refine T_iload_n d_Mo_mapPart_270 rfl ?_
      refine T_iconst (v := nI 2) d_Mo_mapPart_271 (by decide) ?_
      refine N_iadd (a := 2) (b := 12) (c := 14) d_Mo_mapPart_272 rfl ?_
      refine T_bipush (v := nI 29) d_Mo_mapPart_273 (by decide) ?_
      refine T_bipush (v := nI 30) d_Mo_mapPart_275 (by decide) ?_
      have r_99 := (ke_98 29 (by decide)).trans (r_97)
      have r_100 := (ke_98 30 (by decide)).trans ((ke_95 30 (by decide)).trans (vr_93))
      refine T_virtual (as := [.int (nI 14), .int (nI 29), .int (nI 30)]) (rest := []) (b := 373) d_Mo_mapPart_277 rfl (jw_Mo_mul.jo (by decide)) lm_Mo_163 ji_Mo_mul js_Mo_mul hE_98.ob rfl rfl rfl (Nat.le_of_ble_eq_true rfl) (by decide) (by decide) (u_Mo_mul hE_98 (by decide) (by decide) (by decide) r_99 r_100) (fun r M_101 hq => ?_)
      obtain ⟨rfl, E_101, hE_101, vr_101, ke_101, kp_101⟩ := hq
      obtain ⟨x_101, hx_101⟩ : ∃ z : Int, z = (x_86 * x_93) := ⟨_, rfl⟩
      rw [← hx_101] at vr_101
      refine T_eq (pc' := 280) (L' := [(4, .int (nI ((rtG x_8 x_20)))), (0, .ref 373), (1, .int (nI 12)), (2, .ref fr), (3, .int (nI at0))]) (st' := []) (M' := M_101) rfl rfl rfl rfl ?_
      refine T_aload_n (v := .ref 373) d_Mo_mapPart_280 rfl (Or.inr ⟨_, rfl⟩) ?_
      refine T_iload_n d_Mo_mapPart_281 rfl ?_
      refine T_iconst (v := nI 3) d_Mo_mapPart_282 (by decide) ?_
      refine N_iadd (a := 3) (b := 12) (c := 15) d_Mo_mapPart_283 rfl ?_
      refine T_bipush (v := nI 28) d_Mo_mapPart_284 (by decide) ?_
      refine T_bipush (v := nI 31) d_Mo_mapPart_286 (by decide) ?_
      have r_102 := (ke_101 28 (by decide)).trans ((ke_98 28 (by decide)).trans ((ke_95 28 (by decide)).trans (r_94)))
      have r_103 := (ke_101 31 (by decide)).trans ((ke_98 31 (by decide)).trans (r_96))
      refine T_virtual (as := [.int (nI 15), .int (nI 28), .int (nI 31)]) (rest := []) (b := 373) d_Mo_mapPart_288 rfl (jw_Mo_mul.jo (by decide)) lm_Mo_163 ji_Mo_mul js_Mo_mul hE_101.ob rfl rfl rfl (Nat.le_of_ble_eq_true rfl) (by decide) (by decide) (u_Mo_mul hE_101 (by decide) (by decide) (by decide) r_102 r_103) (fun r M_104 hq => ?_)
      obtain ⟨rfl, E_104, hE_104, vr_104, ke_104, kp_104⟩ := hq
      obtain ⟨x_104, hx_104⟩ : ∃ z : Int, z = (x_83 * x_90) := ⟨_, rfl⟩
      rw [← hx_104] at vr_104
      refine T_eq (pc' := 291) (L' := [(4, .int (nI ((rtG x_8 x_20)))), (0, .ref 373), (1, .int (nI 12)), (2, .ref fr), (3, .int (nI at0))]) (st' := []) (M' := M_104) rfl rfl rfl rfl ?_
      have t0 : ph x_1 = ph (num32 (fun k => (b k : Int)) % n255) := by rw [hx_1]
      generalize ph (num32 (fun k => (b k : Int)) % n255) = t at *
      have r1 : ph x_4 = t * t * fI := by rw [hx_4, ph_mul, hx_2, ph_mul, t0, ph_cI]
      generalize hr : t * t * fI = r at r1
      have uu : ph x_8 = gU_ r := by rw [hx_8, ph_mul, hx_6, ph_add, r1, ph_1, ph_cO]; rfl
      have vv : ph x_20 = gV_ r := by rw [hx_20, ph_mul, hx_15, ph_zs, hx_13, ph_add, hx_11, ph_mul, hx_18, ph_add, r1, ph_1, ph_cD]; rfl
      have rr : ph x_24 = rR (gU_ r) (gV_ r) := by rw [hx_24, ph_rt, uu, vv]
      have gi := rtG_1 x_8 x_20
      rw [uu, vv] at gi
      have gd : ¬ rG (gU_ r) (gV_ r) := fun c => absurd (gi.mpr c) (by omega)
      have st : ph x_67 = rR (gU_ r) (gV_ r) * t := by rw [hx_67, ph_mul, rr, t0]
      have ss : ph x_67 = gS_ t r := by
        unfold gS_ ab; rw [if_neg gd]
        rw [if_pos ((od_of st).mpr hb_68), st]; exact fp_nn _
      have cc : ph x_70 = gC_ t r := by rw [hx_70, r1]; unfold gC_; rw [if_neg gd]
      have nn : ph x_79 = gN_ t r := by
        rw [hx_79, ph_sub, vv, hx_77, ph_mul, hx_75, ph_mul, hx_73, ph_sub, cc, r1, ph_1, ph_cL]; unfold gN_; grind -lia -linarith
      have w0 : ph x_83 = (gS_ t r + gS_ t r) * gV_ r := by rw [hx_83, ph_mul, hx_81, ph_add, ss, vv]
      have w1 : ph x_86 = gN_ t r * fG := by rw [hx_86, ph_mul, nn, ph_cG]
      have w3 : ph x_93 = 1 + gS_ t r * gS_ t r := by rw [hx_93, ph_add, hx_88, ph_mul, ss, ph_1]
      have w2 : ph x_90 = 1 - gS_ t r * gS_ t r := by rw [hx_90, ph_sub, hx_88, ph_mul, ss, ph_1]
      have q0 : ph x_95 = gX_ t := by unfold gX_; rw [hr, hx_95, ph_mul, w0, w3]
      have q1 : ph x_98 = gY_ t := by unfold gY_; rw [hr, hx_98, ph_mul, w2, w1]
      have q2 : ph x_101 = gZ_ t := by unfold gZ_; rw [hr, hx_101, ph_mul, w1, w3]
      have q3 : ph x_104 = gT_ t := by unfold gT_; rw [hr, hx_104, ph_mul, w0, w2]
      have r_105 := (ke_104 12 (by decide)).trans ((ke_101 12 (by decide)).trans ((ke_98 12 (by decide)).trans (vr_95)))
      have r_106 := (ke_104 13 (by decide)).trans ((ke_101 13 (by decide)).trans (vr_98))
      have r_107 := (ke_104 14 (by decide)).trans (vr_101)
      exact T_vret d_Mo_mapPart_291 rfl (by decide) (by decide) ⟨rfl, _, _, _, _, ⟨q0, q1, q2, q3⟩, E_104, hE_104, ⟨r_105, r_106, r_107, vr_104⟩, (KE.tr (KE.tr (KE.tr (KE.tr (KE.tr (KE.tr (KE.tr (KE.tr (KE.tr (KE.tr (KE.tr (KE.tr (KE.tr (KE.tr (KE.tr (KE.tr (KE.tr (KE.tr (KE.tr (KE.tr (KE.tr (KE.tr (KE.tr (KE.tr (KE.tr (KE.tr (KE.tr (KE.tr (KE.tr (KE.rf : KE [20, 21, 22, 23, 24, 25, 26, 27, 28, 29, 30, 31, 50, 51, 52, 53, 54, 55, 56, 61, 62, 63, 12, 13, 14, 15] E E) (KE.mono ke_1 (by decide))) (KE.mono ke_2 (by decide))) (KE.mono ke_4 (by decide))) (KE.mono ke_6 (by decide))) (KE.mono ke_8 (by decide))) (KE.mono ke_11 (by decide))) (KE.mono ke_13 (by decide))) (KE.mono ke_15 (by decide))) (KE.mono ke_18 (by decide))) (KE.mono ke_20 (by decide))) (KE.mono ke_24 (by decide))) (KE.mono ke_27 (by decide))) (KE.mono ke_67 (by decide))) (KE.mono ke_68 (by decide))) (KE.mono ke_70 (by decide))) (KE.mono ke_73 (by decide))) (KE.mono ke_75 (by decide))) (KE.mono ke_77 (by decide))) (KE.mono ke_79 (by decide))) (KE.mono ke_81 (by decide))) (KE.mono ke_83 (by decide))) (KE.mono ke_86 (by decide))) (KE.mono ke_88 (by decide))) (KE.mono ke_90 (by decide))) (KE.mono ke_93 (by decide))) (KE.mono ke_95 (by decide))) (KE.mono ke_98 (by decide))) (KE.mono ke_101 (by decide))) (KE.mono ke_104 (by decide))), (Kp.tr (Kp.tr (Kp.tr (Kp.tr (Kp.tr (Kp.tr (Kp.tr (Kp.tr (Kp.tr (Kp.tr (Kp.tr (Kp.tr (Kp.tr (Kp.tr (Kp.tr (Kp.tr (Kp.tr (Kp.tr (Kp.tr (Kp.tr (Kp.tr (Kp.tr (Kp.tr (Kp.tr (Kp.tr (Kp.tr (Kp.tr (Kp.tr (Kp.tr (Kp.rf : Kp [390, 391, 392, 393, 394] M M) (Kp.mono kp_1 (by decide))) (Kp.mono kp_2 (by decide))) (Kp.mono kp_4 (by decide))) (Kp.mono kp_6 (by decide))) (Kp.mono kp_8 (by decide))) (Kp.mono kp_11 (by decide))) (Kp.mono kp_13 (by decide))) (Kp.mono kp_15 (by decide))) (Kp.mono kp_18 (by decide))) (Kp.mono kp_20 (by decide))) (Kp.mono kp_24 (by decide))) (Kp.mono kp_27 (by decide))) (Kp.mono kp_67 (by decide))) (Kp.mono kp_68 (by decide))) (Kp.mono kp_70 (by decide))) (Kp.mono kp_73 (by decide))) (Kp.mono kp_75 (by decide))) (Kp.mono kp_77 (by decide))) (Kp.mono kp_79 (by decide))) (Kp.mono kp_81 (by decide))) (Kp.mono kp_83 (by decide))) (Kp.mono kp_86 (by decide))) (Kp.mono kp_88 (by decide))) (Kp.mono kp_90 (by decide))) (Kp.mono kp_93 (by decide))) (Kp.mono kp_95 (by decide))) (Kp.mono kp_98 (by decide))) (Kp.mono kp_101 (by decide))) (Kp.mono kp_104 (by decide)))⟩
    · rw [if_neg hb_68]
      refine T_eq (pc' := 133) (L' := [(4, .int (nI ((rtG x_8 x_20)))), (0, .ref 373), (1, .int (nI 12)), (2, .ref fr), (3, .int (nI at0))]) (st' := [.int (nI 0)]) (M' := M_68) rfl rfl rfl rfl ?_
      refine N_if_ne_f (b := 0) d_Mo_mapPart_133 (tgt := 145) rfl (by omega) (by omega) ?_
      refine T_aload_n (v := .ref 373) d_Mo_mapPart_136 rfl (Or.inr ⟨_, rfl⟩) ?_
      refine T_bipush (v := nI 25) d_Mo_mapPart_137 (by decide) ?_
      refine T_iconst (v := nI 0) d_Mo_mapPart_139 (by decide) ?_
      refine T_bipush (v := nI 25) d_Mo_mapPart_140 (by decide) ?_
      have r_108 := (ke_68 0 (by decide)).trans ((ke_67 0 (by decide)).trans ((ke_27 0 (by decide)).trans (r_25)))
      have r_109 := (ke_68 25 (by decide)).trans (vr_67)
      refine T_virtual (as := [.int (nI 25), .int (nI 0), .int (nI 25)]) (rest := []) (b := 373) d_Mo_mapPart_142 rfl (jw_Mo_sub.jo (by decide)) lm_Mo_152 ji_Mo_sub js_Mo_sub hE_68.ob rfl rfl rfl (Nat.le_of_ble_eq_true rfl) (by decide) (by decide) (u_Mo_sub hE_68 (by decide) (by decide) (by decide) r_108 r_109) (fun r M_110 hq => ?_)
      obtain ⟨rfl, E_110, hE_110, vr_110, ke_110, kp_110⟩ := hq
      obtain ⟨x_110, hx_110⟩ : ∃ z : Int, z = (0 - x_67) := ⟨_, rfl⟩
      rw [← hx_110] at vr_110
      refine T_eq (pc' := 145) (L' := [(4, .int (nI ((rtG x_8 x_20)))), (0, .ref 373), (1, .int (nI 12)), (2, .ref fr), (3, .int (nI at0))]) (st' := []) (M' := M_110) rfl rfl rfl rfl ?_
      refine T_aload_n (v := .ref 373) d_Mo_mapPart_145 rfl (Or.inr ⟨_, rfl⟩) ?_
      refine T_bipush (v := nI 26) d_Mo_mapPart_146 (by decide) ?_
      refine T_bipush (v := nI 21) d_Mo_mapPart_148 (by decide) ?_
      have r_111 := (ke_110 21 (by decide)).trans ((ke_68 21 (by decide)).trans ((ke_67 21 (by decide)).trans ((ke_27 21 (by decide)).trans ((ke_24 21 (by decide)).trans ((ke_20 21 (by decide)).trans ((ke_18 21 (by decide)).trans (r_16)))))))
      refine T_virtual (as := [.int (nI 26), .int (nI 21)]) (rest := []) (b := 373) d_Mo_mapPart_150 rfl (jw_Mo_set.jo (by decide)) lm_Mo_160 ji_Mo_set js_Mo_set hE_110.ob rfl rfl rfl (Nat.le_of_ble_eq_true rfl) (by decide) (by decide) (u_Mo_set hE_110 (by decide) (by decide) r_111) (fun r M_112 hq => ?_)
      obtain ⟨rfl, E_112, hE_112, vr_112, ke_112, kp_112⟩ := hq
      obtain ⟨x_112, hx_112⟩ : ∃ z : Int, z = x_4 := ⟨_, rfl⟩
      rw [← hx_112] at vr_112
      refine T_eq (pc' := 153) (L' := [(4, .int (nI ((rtG x_8 x_20)))), (0, .ref 373), (1, .int (nI 12)), (2, .ref fr), (3, .int (nI at0))]) (st' := []) (M' := M_112) rfl rfl rfl rfl ?_
      refine T_aload_n (v := .ref 373) d_Mo_mapPart_153 rfl (Or.inr ⟨_, rfl⟩) ?_
      refine T_bipush (v := nI 27) d_Mo_mapPart_154 (by decide) ?_
      refine T_bipush (v := nI 21) d_Mo_mapPart_156 (by decide) ?_
      refine T_iconst (v := nI 1) d_Mo_mapPart_158 (by decide) ?_
      have r_113 := (ke_112 21 (by decide)).trans (r_111)
      have r_114 := (ke_112 1 (by decide)).trans ((ke_110 1 (by decide)).trans ((ke_68 1 (by decide)).trans ((ke_67 1 (by decide)).trans ((ke_27 1 (by decide)).trans (r_26)))))
      refine T_virtual (as := [.int (nI 27), .int (nI 21), .int (nI 1)]) (rest := []) (b := 373) d_Mo_mapPart_159 rfl (jw_Mo_sub.jo (by decide)) lm_Mo_152 ji_Mo_sub js_Mo_sub hE_112.ob rfl rfl rfl (Nat.le_of_ble_eq_true rfl) (by decide) (by decide) (u_Mo_sub hE_112 (by decide) (by decide) (by decide) r_113 r_114) (fun r M_115 hq => ?_)
      obtain ⟨rfl, E_115, hE_115, vr_115, ke_115, kp_115⟩ := hq
      obtain ⟨x_115, hx_115⟩ : ∃ z : Int, z = (x_4 - 1) := ⟨_, rfl⟩
      rw [← hx_115] at vr_115
      refine T_eq (pc' := 162) (L' := [(4, .int (nI ((rtG x_8 x_20)))), (0, .ref 373), (1, .int (nI 12)), (2, .ref fr), (3, .int (nI at0))]) (st' := []) (M' := M_115) rfl rfl rfl rfl ?_
      refine T_aload_n (v := .ref 373) d_Mo_mapPart_162 rfl (Or.inr ⟨_, rfl⟩) ?_
      refine T_bipush (v := nI 27) d_Mo_mapPart_163 (by decide) ?_
      refine T_bipush (v := nI 27) d_Mo_mapPart_165 (by decide) ?_
      refine T_bipush (v := nI 26) d_Mo_mapPart_167 (by decide) ?_
      have r_116 := (ke_115 26 (by decide)).trans (vr_112)
      refine T_virtual (as := [.int (nI 27), .int (nI 27), .int (nI 26)]) (rest := []) (b := 373) d_Mo_mapPart_169 rfl (jw_Mo_mul.jo (by decide)) lm_Mo_163 ji_Mo_mul js_Mo_mul hE_115.ob rfl rfl rfl (Nat.le_of_ble_eq_true rfl) (by decide) (by decide) (u_Mo_mul hE_115 (by decide) (by decide) (by decide) vr_115 r_116) (fun r M_117 hq => ?_)
      obtain ⟨rfl, E_117, hE_117, vr_117, ke_117, kp_117⟩ := hq
      obtain ⟨x_117, hx_117⟩ : ∃ z : Int, z = (x_115 * x_112) := ⟨_, rfl⟩
      rw [← hx_117] at vr_117
      refine T_eq (pc' := 172) (L' := [(4, .int (nI ((rtG x_8 x_20)))), (0, .ref 373), (1, .int (nI 12)), (2, .ref fr), (3, .int (nI at0))]) (st' := []) (M' := M_117) rfl rfl rfl rfl ?_
      refine T_aload_n (v := .ref 373) d_Mo_mapPart_172 rfl (Or.inr ⟨_, rfl⟩) ?_
      refine T_bipush (v := nI 27) d_Mo_mapPart_173 (by decide) ?_
      refine T_bipush (v := nI 27) d_Mo_mapPart_175 (by decide) ?_
      refine T_bipush (v := nI 7) d_Mo_mapPart_177 (by decide) ?_
      have r_118 := (ke_117 7 (by decide)).trans ((ke_115 7 (by decide)).trans ((ke_112 7 (by decide)).trans ((ke_110 7 (by decide)).trans ((ke_68 7 (by decide)).trans ((ke_67 7 (by decide)).trans ((ke_27 7 (by decide)).trans ((ke_24 7 (by decide)).trans ((ke_20 7 (by decide)).trans ((ke_18 7 (by decide)).trans ((ke_15 7 (by decide)).trans ((ke_13 7 (by decide)).trans ((ke_11 7 (by decide)).trans ((ke_8 7 (by decide)).trans ((ke_6 7 (by decide)).trans ((ke_4 7 (by decide)).trans ((ke_2 7 (by decide)).trans ((ke_1 7 (by decide)).trans (ck.c7))))))))))))))))))
      refine T_virtual (as := [.int (nI 27), .int (nI 27), .int (nI 7)]) (rest := []) (b := 373) d_Mo_mapPart_179 rfl (jw_Mo_mul.jo (by decide)) lm_Mo_163 ji_Mo_mul js_Mo_mul hE_117.ob rfl rfl rfl (Nat.le_of_ble_eq_true rfl) (by decide) (by decide) (u_Mo_mul hE_117 (by decide) (by decide) (by decide) vr_117 r_118) (fun r M_119 hq => ?_)
      obtain ⟨rfl, E_119, hE_119, vr_119, ke_119, kp_119⟩ := hq
      obtain ⟨x_119, hx_119⟩ : ∃ z : Int, z = (x_117 * cL) := ⟨_, rfl⟩
      rw [← hx_119] at vr_119
      refine T_eq (pc' := 182) (L' := [(4, .int (nI ((rtG x_8 x_20)))), (0, .ref 373), (1, .int (nI 12)), (2, .ref fr), (3, .int (nI at0))]) (st' := []) (M' := M_119) rfl rfl rfl rfl ?_
      refine T_aload_n (v := .ref 373) d_Mo_mapPart_182 rfl (Or.inr ⟨_, rfl⟩) ?_
      refine T_bipush (v := nI 27) d_Mo_mapPart_183 (by decide) ?_
      refine T_bipush (v := nI 27) d_Mo_mapPart_185 (by decide) ?_
      refine T_bipush (v := nI 23) d_Mo_mapPart_187 (by decide) ?_
      have r_120 := (ke_119 23 (by decide)).trans ((ke_117 23 (by decide)).trans ((ke_115 23 (by decide)).trans ((ke_112 23 (by decide)).trans ((ke_110 23 (by decide)).trans ((ke_68 23 (by decide)).trans ((ke_67 23 (by decide)).trans ((ke_27 23 (by decide)).trans ((ke_24 23 (by decide)).trans (vr_20)))))))))
      refine T_virtual (as := [.int (nI 27), .int (nI 27), .int (nI 23)]) (rest := []) (b := 373) d_Mo_mapPart_189 rfl (jw_Mo_sub.jo (by decide)) lm_Mo_152 ji_Mo_sub js_Mo_sub hE_119.ob rfl rfl rfl (Nat.le_of_ble_eq_true rfl) (by decide) (by decide) (u_Mo_sub hE_119 (by decide) (by decide) (by decide) vr_119 r_120) (fun r M_121 hq => ?_)
      obtain ⟨rfl, E_121, hE_121, vr_121, ke_121, kp_121⟩ := hq
      obtain ⟨x_121, hx_121⟩ : ∃ z : Int, z = (x_119 - x_20) := ⟨_, rfl⟩
      rw [← hx_121] at vr_121
      refine T_eq (pc' := 192) (L' := [(4, .int (nI ((rtG x_8 x_20)))), (0, .ref 373), (1, .int (nI 12)), (2, .ref fr), (3, .int (nI at0))]) (st' := []) (M' := M_121) rfl rfl rfl rfl ?_
      refine T_aload_n (v := .ref 373) d_Mo_mapPart_192 rfl (Or.inr ⟨_, rfl⟩) ?_
      refine T_bipush (v := nI 28) d_Mo_mapPart_193 (by decide) ?_
      refine T_bipush (v := nI 25) d_Mo_mapPart_195 (by decide) ?_
      refine T_bipush (v := nI 25) d_Mo_mapPart_197 (by decide) ?_
      have r_122 := (ke_121 25 (by decide)).trans ((ke_119 25 (by decide)).trans ((ke_117 25 (by decide)).trans ((ke_115 25 (by decide)).trans ((ke_112 25 (by decide)).trans (vr_110)))))
      refine T_virtual (as := [.int (nI 28), .int (nI 25), .int (nI 25)]) (rest := []) (b := 373) d_Mo_mapPart_199 rfl (jw_Mo_add.jo (by decide)) lm_Mo_182 ji_Mo_add js_Mo_add hE_121.ob rfl rfl rfl (Nat.le_of_ble_eq_true rfl) (by decide) (by decide) (u_Mo_add hE_121 (by decide) (by decide) (by decide) r_122 r_122) (fun r M_123 hq => ?_)
      obtain ⟨rfl, E_123, hE_123, vr_123, ke_123, kp_123⟩ := hq
      obtain ⟨x_123, hx_123⟩ : ∃ z : Int, z = (x_110 + x_110) := ⟨_, rfl⟩
      rw [← hx_123] at vr_123
      refine T_eq (pc' := 202) (L' := [(4, .int (nI ((rtG x_8 x_20)))), (0, .ref 373), (1, .int (nI 12)), (2, .ref fr), (3, .int (nI at0))]) (st' := []) (M' := M_123) rfl rfl rfl rfl ?_
      refine T_aload_n (v := .ref 373) d_Mo_mapPart_202 rfl (Or.inr ⟨_, rfl⟩) ?_
      refine T_bipush (v := nI 28) d_Mo_mapPart_203 (by decide) ?_
      refine T_bipush (v := nI 28) d_Mo_mapPart_205 (by decide) ?_
      refine T_bipush (v := nI 23) d_Mo_mapPart_207 (by decide) ?_
      have r_124 := (ke_123 23 (by decide)).trans ((ke_121 23 (by decide)).trans (r_120))
      refine T_virtual (as := [.int (nI 28), .int (nI 28), .int (nI 23)]) (rest := []) (b := 373) d_Mo_mapPart_209 rfl (jw_Mo_mul.jo (by decide)) lm_Mo_163 ji_Mo_mul js_Mo_mul hE_123.ob rfl rfl rfl (Nat.le_of_ble_eq_true rfl) (by decide) (by decide) (u_Mo_mul hE_123 (by decide) (by decide) (by decide) vr_123 r_124) (fun r M_125 hq => ?_)
      obtain ⟨rfl, E_125, hE_125, vr_125, ke_125, kp_125⟩ := hq
      obtain ⟨x_125, hx_125⟩ : ∃ z : Int, z = (x_123 * x_20) := ⟨_, rfl⟩
      rw [← hx_125] at vr_125
      refine T_eq (pc' := 212) (L' := [(4, .int (nI ((rtG x_8 x_20)))), (0, .ref 373), (1, .int (nI 12)), (2, .ref fr), (3, .int (nI at0))]) (st' := []) (M' := M_125) rfl rfl rfl rfl ?_
      refine T_aload_n (v := .ref 373) d_Mo_mapPart_212 rfl (Or.inr ⟨_, rfl⟩) ?_
      refine T_bipush (v := nI 29) d_Mo_mapPart_213 (by decide) ?_
      refine T_bipush (v := nI 27) d_Mo_mapPart_215 (by decide) ?_
      refine T_iconst (v := nI 5) d_Mo_mapPart_217 (by decide) ?_
      have r_126 := (ke_125 27 (by decide)).trans ((ke_123 27 (by decide)).trans (vr_121))
      have r_127 := (ke_125 5 (by decide)).trans ((ke_123 5 (by decide)).trans ((ke_121 5 (by decide)).trans ((ke_119 5 (by decide)).trans ((ke_117 5 (by decide)).trans ((ke_115 5 (by decide)).trans ((ke_112 5 (by decide)).trans ((ke_110 5 (by decide)).trans ((ke_68 5 (by decide)).trans ((ke_67 5 (by decide)).trans ((ke_27 5 (by decide)).trans ((ke_24 5 (by decide)).trans ((ke_20 5 (by decide)).trans ((ke_18 5 (by decide)).trans ((ke_15 5 (by decide)).trans ((ke_13 5 (by decide)).trans ((ke_11 5 (by decide)).trans ((ke_8 5 (by decide)).trans ((ke_6 5 (by decide)).trans ((ke_4 5 (by decide)).trans ((ke_2 5 (by decide)).trans ((ke_1 5 (by decide)).trans (ck.c5))))))))))))))))))))))
      refine T_virtual (as := [.int (nI 29), .int (nI 27), .int (nI 5)]) (rest := []) (b := 373) d_Mo_mapPart_218 rfl (jw_Mo_mul.jo (by decide)) lm_Mo_163 ji_Mo_mul js_Mo_mul hE_125.ob rfl rfl rfl (Nat.le_of_ble_eq_true rfl) (by decide) (by decide) (u_Mo_mul hE_125 (by decide) (by decide) (by decide) r_126 r_127) (fun r M_128 hq => ?_)
      obtain ⟨rfl, E_128, hE_128, vr_128, ke_128, kp_128⟩ := hq
      obtain ⟨x_128, hx_128⟩ : ∃ z : Int, z = (x_121 * cG) := ⟨_, rfl⟩
      rw [← hx_128] at vr_128
      refine T_eq (pc' := 221) (L' := [(4, .int (nI ((rtG x_8 x_20)))), (0, .ref 373), (1, .int (nI 12)), (2, .ref fr), (3, .int (nI at0))]) (st' := []) (M' := M_128) rfl rfl rfl rfl ?_
      refine T_aload_n (v := .ref 373) d_Mo_mapPart_221 rfl (Or.inr ⟨_, rfl⟩) ?_
      refine T_bipush (v := nI 30) d_Mo_mapPart_222 (by decide) ?_
      refine T_bipush (v := nI 25) d_Mo_mapPart_224 (by decide) ?_
      refine T_bipush (v := nI 25) d_Mo_mapPart_226 (by decide) ?_
      have r_129 := (ke_128 25 (by decide)).trans ((ke_125 25 (by decide)).trans ((ke_123 25 (by decide)).trans (r_122)))
      refine T_virtual (as := [.int (nI 30), .int (nI 25), .int (nI 25)]) (rest := []) (b := 373) d_Mo_mapPart_228 rfl (jw_Mo_mul.jo (by decide)) lm_Mo_163 ji_Mo_mul js_Mo_mul hE_128.ob rfl rfl rfl (Nat.le_of_ble_eq_true rfl) (by decide) (by decide) (u_Mo_mul hE_128 (by decide) (by decide) (by decide) r_129 r_129) (fun r M_130 hq => ?_)
      obtain ⟨rfl, E_130, hE_130, vr_130, ke_130, kp_130⟩ := hq
      obtain ⟨x_130, hx_130⟩ : ∃ z : Int, z = (x_110 * x_110) := ⟨_, rfl⟩
      rw [← hx_130] at vr_130
      refine T_eq (pc' := 231) (L' := [(4, .int (nI ((rtG x_8 x_20)))), (0, .ref 373), (1, .int (nI 12)), (2, .ref fr), (3, .int (nI at0))]) (st' := []) (M' := M_130) rfl rfl rfl rfl ?_
      refine T_aload_n (v := .ref 373) d_Mo_mapPart_231 rfl (Or.inr ⟨_, rfl⟩) ?_
      refine T_bipush (v := nI 31) d_Mo_mapPart_232 (by decide) ?_
      refine T_iconst (v := nI 1) d_Mo_mapPart_234 (by decide) ?_
      refine T_bipush (v := nI 30) d_Mo_mapPart_235 (by decide) ?_
      have r_131 := (ke_130 1 (by decide)).trans ((ke_128 1 (by decide)).trans ((ke_125 1 (by decide)).trans ((ke_123 1 (by decide)).trans ((ke_121 1 (by decide)).trans ((ke_119 1 (by decide)).trans ((ke_117 1 (by decide)).trans ((ke_115 1 (by decide)).trans (r_114))))))))
      refine T_virtual (as := [.int (nI 31), .int (nI 1), .int (nI 30)]) (rest := []) (b := 373) d_Mo_mapPart_237 rfl (jw_Mo_sub.jo (by decide)) lm_Mo_152 ji_Mo_sub js_Mo_sub hE_130.ob rfl rfl rfl (Nat.le_of_ble_eq_true rfl) (by decide) (by decide) (u_Mo_sub hE_130 (by decide) (by decide) (by decide) r_131 vr_130) (fun r M_132 hq => ?_)
      obtain ⟨rfl, E_132, hE_132, vr_132, ke_132, kp_132⟩ := hq
      obtain ⟨x_132, hx_132⟩ : ∃ z : Int, z = (1 - x_130) := ⟨_, rfl⟩
      rw [← hx_132] at vr_132
      refine T_eq (pc' := 240) (L' := [(4, .int (nI ((rtG x_8 x_20)))), (0, .ref 373), (1, .int (nI 12)), (2, .ref fr), (3, .int (nI at0))]) (st' := []) (M' := M_132) rfl rfl rfl rfl ?_
      refine T_aload_n (v := .ref 373) d_Mo_mapPart_240 rfl (Or.inr ⟨_, rfl⟩) ?_
      refine T_bipush (v := nI 30) d_Mo_mapPart_241 (by decide) ?_
      refine T_iconst (v := nI 1) d_Mo_mapPart_243 (by decide) ?_
      refine T_bipush (v := nI 30) d_Mo_mapPart_244 (by decide) ?_
      have r_133 := (ke_132 1 (by decide)).trans (r_131)
      have r_134 := (ke_132 30 (by decide)).trans (vr_130)
      refine T_virtual (as := [.int (nI 30), .int (nI 1), .int (nI 30)]) (rest := []) (b := 373) d_Mo_mapPart_246 rfl (jw_Mo_add.jo (by decide)) lm_Mo_182 ji_Mo_add js_Mo_add hE_132.ob rfl rfl rfl (Nat.le_of_ble_eq_true rfl) (by decide) (by decide) (u_Mo_add hE_132 (by decide) (by decide) (by decide) r_133 r_134) (fun r M_135 hq => ?_)
      obtain ⟨rfl, E_135, hE_135, vr_135, ke_135, kp_135⟩ := hq
      obtain ⟨x_135, hx_135⟩ : ∃ z : Int, z = (1 + x_130) := ⟨_, rfl⟩
      rw [← hx_135] at vr_135
      refine T_eq (pc' := 249) (L' := [(4, .int (nI ((rtG x_8 x_20)))), (0, .ref 373), (1, .int (nI 12)), (2, .ref fr), (3, .int (nI at0))]) (st' := []) (M' := M_135) rfl rfl rfl rfl ?_
      refine T_aload_n (v := .ref 373) d_Mo_mapPart_249 rfl (Or.inr ⟨_, rfl⟩) ?_
      refine T_iload_n d_Mo_mapPart_250 rfl ?_
      refine T_bipush (v := nI 28) d_Mo_mapPart_251 (by decide) ?_
      refine T_bipush (v := nI 30) d_Mo_mapPart_253 (by decide) ?_
      have r_136 := (ke_135 28 (by decide)).trans ((ke_132 28 (by decide)).trans ((ke_130 28 (by decide)).trans ((ke_128 28 (by decide)).trans (vr_125))))
      refine T_virtual (as := [.int (nI 12), .int (nI 28), .int (nI 30)]) (rest := []) (b := 373) d_Mo_mapPart_255 rfl (jw_Mo_mul.jo (by decide)) lm_Mo_163 ji_Mo_mul js_Mo_mul hE_135.ob rfl rfl rfl (Nat.le_of_ble_eq_true rfl) (by decide) (by decide) (u_Mo_mul hE_135 (by decide) (by decide) (by decide) r_136 vr_135) (fun r M_137 hq => ?_)
      obtain ⟨rfl, E_137, hE_137, vr_137, ke_137, kp_137⟩ := hq
      obtain ⟨x_137, hx_137⟩ : ∃ z : Int, z = (x_125 * x_135) := ⟨_, rfl⟩
      rw [← hx_137] at vr_137
      refine T_eq (pc' := 258) (L' := [(4, .int (nI ((rtG x_8 x_20)))), (0, .ref 373), (1, .int (nI 12)), (2, .ref fr), (3, .int (nI at0))]) (st' := []) (M' := M_137) rfl rfl rfl rfl ?_
      refine T_aload_n (v := .ref 373) d_Mo_mapPart_258 rfl (Or.inr ⟨_, rfl⟩) ?_
      refine T_iload_n d_Mo_mapPart_259 rfl ?_
      refine T_iconst (v := nI 1) d_Mo_mapPart_260 (by decide) ?_
      refine N_iadd (a := 1) (b := 12) (c := 13) d_Mo_mapPart_261 rfl ?_
      refine T_bipush (v := nI 31) d_Mo_mapPart_262 (by decide) ?_
      refine T_bipush (v := nI 29) d_Mo_mapPart_264 (by decide) ?_
      have r_138 := (ke_137 31 (by decide)).trans ((ke_135 31 (by decide)).trans (vr_132))
      have r_139 := (ke_137 29 (by decide)).trans ((ke_135 29 (by decide)).trans ((ke_132 29 (by decide)).trans ((ke_130 29 (by decide)).trans (vr_128))))
      refine T_virtual (as := [.int (nI 13), .int (nI 31), .int (nI 29)]) (rest := []) (b := 373) d_Mo_mapPart_266 rfl (jw_Mo_mul.jo (by decide)) lm_Mo_163 ji_Mo_mul js_Mo_mul hE_137.ob rfl rfl rfl (Nat.le_of_ble_eq_true rfl) (by decide) (by decide) (u_Mo_mul hE_137 (by decide) (by decide) (by decide) r_138 r_139) (fun r M_140 hq => ?_)
      obtain ⟨rfl, E_140, hE_140, vr_140, ke_140, kp_140⟩ := hq
      obtain ⟨x_140, hx_140⟩ : ∃ z : Int, z = (x_132 * x_128) := ⟨_, rfl⟩
      rw [← hx_140] at vr_140
      refine T_eq (pc' := 269) (L' := [(4, .int (nI ((rtG x_8 x_20)))), (0, .ref 373), (1, .int (nI 12)), (2, .ref fr), (3, .int (nI at0))]) (st' := []) (M' := M_140) rfl rfl rfl rfl ?_
      refine T_aload_n (v := .ref 373) d_Mo_mapPart_269 rfl (Or.inr ⟨_, rfl⟩) ?_
      refine T_iload_n d_Mo_mapPart_270 rfl ?_
      refine T_iconst (v := nI 2) d_Mo_mapPart_271 (by decide) ?_
      refine N_iadd (a := 2) (b := 12) (c := 14) d_Mo_mapPart_272 rfl ?_
      refine T_bipush (v := nI 29) d_Mo_mapPart_273 (by decide) ?_
      refine T_bipush (v := nI 30) d_Mo_mapPart_275 (by decide) ?_
      have r_141 := (ke_140 29 (by decide)).trans (r_139)
      have r_142 := (ke_140 30 (by decide)).trans ((ke_137 30 (by decide)).trans (vr_135))
      refine T_virtual (as := [.int (nI 14), .int (nI 29), .int (nI 30)]) (rest := []) (b := 373) d_Mo_mapPart_277 rfl (jw_Mo_mul.jo (by decide)) lm_Mo_163 ji_Mo_mul js_Mo_mul hE_140.ob rfl rfl rfl (Nat.le_of_ble_eq_true rfl) (by decide) (by decide) (u_Mo_mul hE_140 (by decide) (by decide) (by decide) r_141 r_142) (fun r M_143 hq => ?_)
      obtain ⟨rfl, E_143, hE_143, vr_143, ke_143, kp_143⟩ := hq
      obtain ⟨x_143, hx_143⟩ : ∃ z : Int, z = (x_128 * x_135) := ⟨_, rfl⟩
      rw [← hx_143] at vr_143
      refine T_eq (pc' := 280) (L' := [(4, .int (nI ((rtG x_8 x_20)))), (0, .ref 373), (1, .int (nI 12)), (2, .ref fr), (3, .int (nI at0))]) (st' := []) (M' := M_143) rfl rfl rfl rfl ?_
      refine T_aload_n (v := .ref 373) d_Mo_mapPart_280 rfl (Or.inr ⟨_, rfl⟩) ?_
      refine T_iload_n d_Mo_mapPart_281 rfl ?_
      refine T_iconst (v := nI 3) d_Mo_mapPart_282 (by decide) ?_
      refine N_iadd (a := 3) (b := 12) (c := 15) d_Mo_mapPart_283 rfl ?_
      refine T_bipush (v := nI 28) d_Mo_mapPart_284 (by decide) ?_
      refine T_bipush (v := nI 31) d_Mo_mapPart_286 (by decide) ?_
      have r_144 := (ke_143 28 (by decide)).trans ((ke_140 28 (by decide)).trans ((ke_137 28 (by decide)).trans (r_136)))
      have r_145 := (ke_143 31 (by decide)).trans ((ke_140 31 (by decide)).trans (r_138))
      refine T_virtual (as := [.int (nI 15), .int (nI 28), .int (nI 31)]) (rest := []) (b := 373) d_Mo_mapPart_288 rfl (jw_Mo_mul.jo (by decide)) lm_Mo_163 ji_Mo_mul js_Mo_mul hE_143.ob rfl rfl rfl (Nat.le_of_ble_eq_true rfl) (by decide) (by decide) (u_Mo_mul hE_143 (by decide) (by decide) (by decide) r_144 r_145) (fun r M_146 hq => ?_)
      obtain ⟨rfl, E_146, hE_146, vr_146, ke_146, kp_146⟩ := hq
      obtain ⟨x_146, hx_146⟩ : ∃ z : Int, z = (x_125 * x_132) := ⟨_, rfl⟩
      rw [← hx_146] at vr_146
      refine T_eq (pc' := 291) (L' := [(4, .int (nI ((rtG x_8 x_20)))), (0, .ref 373), (1, .int (nI 12)), (2, .ref fr), (3, .int (nI at0))]) (st' := []) (M' := M_146) rfl rfl rfl rfl ?_
      have t0 : ph x_1 = ph (num32 (fun k => (b k : Int)) % n255) := by rw [hx_1]
      generalize ph (num32 (fun k => (b k : Int)) % n255) = t at *
      have r1 : ph x_4 = t * t * fI := by rw [hx_4, ph_mul, hx_2, ph_mul, t0, ph_cI]
      generalize hr : t * t * fI = r at r1
      have uu : ph x_8 = gU_ r := by rw [hx_8, ph_mul, hx_6, ph_add, r1, ph_1, ph_cO]; rfl
      have vv : ph x_20 = gV_ r := by rw [hx_20, ph_mul, hx_15, ph_zs, hx_13, ph_add, hx_11, ph_mul, hx_18, ph_add, r1, ph_1, ph_cD]; rfl
      have rr : ph x_24 = rR (gU_ r) (gV_ r) := by rw [hx_24, ph_rt, uu, vv]
      have gi := rtG_1 x_8 x_20
      rw [uu, vv] at gi
      have gd : ¬ rG (gU_ r) (gV_ r) := fun c => absurd (gi.mpr c) (by omega)
      have st : ph x_67 = rR (gU_ r) (gV_ r) * t := by rw [hx_67, ph_mul, rr, t0]
      have ss : ph x_110 = gS_ t r := by
        unfold gS_ ab; rw [if_neg gd]
        rw [if_neg (fun z => hb_68 ((od_of st).mp z)), hx_110, ph_zs, st]
      have cc : ph x_112 = gC_ t r := by rw [hx_112, r1]; unfold gC_; rw [if_neg gd]
      have nn : ph x_121 = gN_ t r := by
        rw [hx_121, ph_sub, vv, hx_119, ph_mul, hx_117, ph_mul, hx_115, ph_sub, cc, r1, ph_1, ph_cL]; unfold gN_; grind -lia -linarith
      have w0 : ph x_125 = (gS_ t r + gS_ t r) * gV_ r := by rw [hx_125, ph_mul, hx_123, ph_add, ss, vv]
      have w1 : ph x_128 = gN_ t r * fG := by rw [hx_128, ph_mul, nn, ph_cG]
      have w3 : ph x_135 = 1 + gS_ t r * gS_ t r := by rw [hx_135, ph_add, hx_130, ph_mul, ss, ph_1]
      have w2 : ph x_132 = 1 - gS_ t r * gS_ t r := by rw [hx_132, ph_sub, hx_130, ph_mul, ss, ph_1]
      have q0 : ph x_137 = gX_ t := by unfold gX_; rw [hr, hx_137, ph_mul, w0, w3]
      have q1 : ph x_140 = gY_ t := by unfold gY_; rw [hr, hx_140, ph_mul, w2, w1]
      have q2 : ph x_143 = gZ_ t := by unfold gZ_; rw [hr, hx_143, ph_mul, w1, w3]
      have q3 : ph x_146 = gT_ t := by unfold gT_; rw [hr, hx_146, ph_mul, w0, w2]
      have r_147 := (ke_146 12 (by decide)).trans ((ke_143 12 (by decide)).trans ((ke_140 12 (by decide)).trans (vr_137)))
      have r_148 := (ke_146 13 (by decide)).trans ((ke_143 13 (by decide)).trans (vr_140))
      have r_149 := (ke_146 14 (by decide)).trans (vr_143)
      exact T_vret d_Mo_mapPart_291 rfl (by decide) (by decide) ⟨rfl, _, _, _, _, ⟨q0, q1, q2, q3⟩, E_146, hE_146, ⟨r_147, r_148, r_149, vr_146⟩, (KE.tr (KE.tr (KE.tr (KE.tr (KE.tr (KE.tr (KE.tr (KE.tr (KE.tr (KE.tr (KE.tr (KE.tr (KE.tr (KE.tr (KE.tr (KE.tr (KE.tr (KE.tr (KE.tr (KE.tr (KE.tr (KE.tr (KE.tr (KE.tr (KE.tr (KE.tr (KE.tr (KE.tr (KE.tr (KE.tr (KE.rf : KE [20, 21, 22, 23, 24, 25, 26, 27, 28, 29, 30, 31, 50, 51, 52, 53, 54, 55, 56, 61, 62, 63, 12, 13, 14, 15] E E) (KE.mono ke_1 (by decide))) (KE.mono ke_2 (by decide))) (KE.mono ke_4 (by decide))) (KE.mono ke_6 (by decide))) (KE.mono ke_8 (by decide))) (KE.mono ke_11 (by decide))) (KE.mono ke_13 (by decide))) (KE.mono ke_15 (by decide))) (KE.mono ke_18 (by decide))) (KE.mono ke_20 (by decide))) (KE.mono ke_24 (by decide))) (KE.mono ke_27 (by decide))) (KE.mono ke_67 (by decide))) (KE.mono ke_68 (by decide))) (KE.mono ke_110 (by decide))) (KE.mono ke_112 (by decide))) (KE.mono ke_115 (by decide))) (KE.mono ke_117 (by decide))) (KE.mono ke_119 (by decide))) (KE.mono ke_121 (by decide))) (KE.mono ke_123 (by decide))) (KE.mono ke_125 (by decide))) (KE.mono ke_128 (by decide))) (KE.mono ke_130 (by decide))) (KE.mono ke_132 (by decide))) (KE.mono ke_135 (by decide))) (KE.mono ke_137 (by decide))) (KE.mono ke_140 (by decide))) (KE.mono ke_143 (by decide))) (KE.mono ke_146 (by decide))), (Kp.tr (Kp.tr (Kp.tr (Kp.tr (Kp.tr (Kp.tr (Kp.tr (Kp.tr (Kp.tr (Kp.tr (Kp.tr (Kp.tr (Kp.tr (Kp.tr (Kp.tr (Kp.tr (Kp.tr (Kp.tr (Kp.tr (Kp.tr (Kp.tr (Kp.tr (Kp.tr (Kp.tr (Kp.tr (Kp.tr (Kp.tr (Kp.tr (Kp.tr (Kp.tr (Kp.rf : Kp [390, 391, 392, 393, 394] M M) (Kp.mono kp_1 (by decide))) (Kp.mono kp_2 (by decide))) (Kp.mono kp_4 (by decide))) (Kp.mono kp_6 (by decide))) (Kp.mono kp_8 (by decide))) (Kp.mono kp_11 (by decide))) (Kp.mono kp_13 (by decide))) (Kp.mono kp_15 (by decide))) (Kp.mono kp_18 (by decide))) (Kp.mono kp_20 (by decide))) (Kp.mono kp_24 (by decide))) (Kp.mono kp_27 (by decide))) (Kp.mono kp_67 (by decide))) (Kp.mono kp_68 (by decide))) (Kp.mono kp_110 (by decide))) (Kp.mono kp_112 (by decide))) (Kp.mono kp_115 (by decide))) (Kp.mono kp_117 (by decide))) (Kp.mono kp_119 (by decide))) (Kp.mono kp_121 (by decide))) (Kp.mono kp_123 (by decide))) (Kp.mono kp_125 (by decide))) (Kp.mono kp_128 (by decide))) (Kp.mono kp_130 (by decide))) (Kp.mono kp_132 (by decide))) (Kp.mono kp_135 (by decide))) (Kp.mono kp_137 (by decide))) (Kp.mono kp_140 (by decide))) (Kp.mono kp_143 (by decide))) (Kp.mono kp_146 (by decide)))⟩
set_option maxHeartbeats 8000000 in
theorem u_Mo_map_16 {G : GX} {M : List va_E} {v : Nat → Int32} {E : Nat → Int} (hE : RE M v E) (ck : CK E) {fr at0 n : Nat} {g : Nat → Int32} {b : Nat → Nat} (hg : M[fr]? = some (ir n g)) (kf : fr ∉ RW) (hn : at0 + 32 ≤ n) (hn2 : n < 2 ^ 31) (hb : ∀ k, k < 32 → g (at0 + k) = nI (b k)) (hb2 : ∀ k, k < 32 → b k < 256) : CT G mi_Mo_mapPart [.ref 373, .int (nI 16), .ref fr, .int (nI at0)] M (fun r M' => r = none ∧ ∃ X Y Z T, (ph X = gX_ (ph (num32 (fun k => (b k : Int)) % n255)) ∧ ph Y = gY_ (ph (num32 (fun k => (b k : Int)) % n255)) ∧ ph Z = gZ_ (ph (num32 (fun k => (b k : Int)) % n255)) ∧ ph T = gT_ (ph (num32 (fun k => (b k : Int)) % n255))) ∧ qP4 M v E 16 X Y Z T [20, 21, 22, 23, 24, 25, 26, 27, 28, 29, 30, 31, 50, 51, 52, 53, 54, 55, 56, 61, 62, 63, 16, 17, 18, 19] M') := by
  refine CT.of (by decide) (Nat.le_of_ble_eq_true rfl) ?_
  show TT G mi_Mo_mapPart 0 [(0, .ref 373), (1, .int (nI 16)), (2, .ref fr), (3, .int (nI at0))] [] M 0 0 _
  refine T_aload_n (v := .ref 373) d_Mo_mapPart_0 rfl (Or.inr ⟨_, rfl⟩) ?_
  refine T_bipush (v := nI 20) d_Mo_mapPart_1 (by decide) ?_
  refine T_aload_n (v := .ref fr) d_Mo_mapPart_3 rfl (Or.inr ⟨_, rfl⟩) ?_
  refine T_iload_n d_Mo_mapPart_4 rfl ?_
  refine T_virtual (as := [.int (nI 20), .ref fr, .int (nI at0)]) (rest := []) (b := 373) d_Mo_mapPart_5 rfl (jw_Mo_unpack.jo (by decide)) lm_Mo_201 ji_Mo_unpack js_Mo_unpack hE.ob rfl rfl rfl (Nat.le_of_ble_eq_true rfl) (by decide) (by decide) (u_Mo_unpack hE (by decide) hg (fun c => kf (by rw [c]; decide)) hn hn2 hb hb2) (fun r M_1 hq => ?_)
  obtain ⟨rfl, E_1, hE_1, vr_1, ke_1, kp_1⟩ := hq
  obtain ⟨x_1, hx_1⟩ : ∃ z : Int, z = (num32 (fun k => (b k : Int)) % n255) := ⟨_, rfl⟩
  rw [← hx_1] at vr_1
  refine T_eq (pc' := 8) (L' := [(0, .ref 373), (1, .int (nI 16)), (2, .ref fr), (3, .int (nI at0))]) (st' := []) (M' := M_1) rfl rfl rfl rfl ?_
  refine T_aload_n (v := .ref 373) d_Mo_mapPart_8 rfl (Or.inr ⟨_, rfl⟩) ?_
  refine T_bipush (v := nI 21) d_Mo_mapPart_9 (by decide) ?_
  refine T_bipush (v := nI 20) d_Mo_mapPart_11 (by decide) ?_
  refine T_bipush (v := nI 20) d_Mo_mapPart_13 (by decide) ?_
  refine T_virtual (as := [.int (nI 21), .int (nI 20), .int (nI 20)]) (rest := []) (b := 373) d_Mo_mapPart_15 rfl (jw_Mo_mul.jo (by decide)) lm_Mo_163 ji_Mo_mul js_Mo_mul hE_1.ob rfl rfl rfl (Nat.le_of_ble_eq_true rfl) (by decide) (by decide) (u_Mo_mul hE_1 (by decide) (by decide) (by decide) vr_1 vr_1) (fun r M_2 hq => ?_)
  obtain ⟨rfl, E_2, hE_2, vr_2, ke_2, kp_2⟩ := hq
  obtain ⟨x_2, hx_2⟩ : ∃ z : Int, z = (x_1 * x_1) := ⟨_, rfl⟩
  rw [← hx_2] at vr_2
  refine T_eq (pc' := 18) (L' := [(0, .ref 373), (1, .int (nI 16)), (2, .ref fr), (3, .int (nI at0))]) (st' := []) (M' := M_2) rfl rfl rfl rfl ?_
  refine T_aload_n (v := .ref 373) d_Mo_mapPart_18 rfl (Or.inr ⟨_, rfl⟩) ?_
  refine T_bipush (v := nI 21) d_Mo_mapPart_19 (by decide) ?_
  refine T_bipush (v := nI 21) d_Mo_mapPart_21 (by decide) ?_
  refine T_iconst (v := nI 3) d_Mo_mapPart_23 (by decide) ?_
  have r_3 := (ke_2 3 (by decide)).trans ((ke_1 3 (by decide)).trans (ck.c3))
  refine T_virtual (as := [.int (nI 21), .int (nI 21), .int (nI 3)]) (rest := []) (b := 373) d_Mo_mapPart_24 rfl (jw_Mo_mul.jo (by decide)) lm_Mo_163 ji_Mo_mul js_Mo_mul hE_2.ob rfl rfl rfl (Nat.le_of_ble_eq_true rfl) (by decide) (by decide) (u_Mo_mul hE_2 (by decide) (by decide) (by decide) vr_2 r_3) (fun r M_4 hq => ?_)
  obtain ⟨rfl, E_4, hE_4, vr_4, ke_4, kp_4⟩ := hq
  obtain ⟨x_4, hx_4⟩ : ∃ z : Int, z = (x_2 * cI) := ⟨_, rfl⟩
  rw [← hx_4] at vr_4
  refine T_eq (pc' := 27) (L' := [(0, .ref 373), (1, .int (nI 16)), (2, .ref fr), (3, .int (nI at0))]) (st' := []) (M' := M_4) rfl rfl rfl rfl ?_
  refine T_aload_n (v := .ref 373) d_Mo_mapPart_27 rfl (Or.inr ⟨_, rfl⟩) ?_
  refine T_bipush (v := nI 22) d_Mo_mapPart_28 (by decide) ?_
  refine T_bipush (v := nI 21) d_Mo_mapPart_30 (by decide) ?_
  refine T_iconst (v := nI 1) d_Mo_mapPart_32 (by decide) ?_
  have r_5 := (ke_4 1 (by decide)).trans ((ke_2 1 (by decide)).trans ((ke_1 1 (by decide)).trans (ck.c1)))
  refine T_virtual (as := [.int (nI 22), .int (nI 21), .int (nI 1)]) (rest := []) (b := 373) d_Mo_mapPart_33 rfl (jw_Mo_add.jo (by decide)) lm_Mo_182 ji_Mo_add js_Mo_add hE_4.ob rfl rfl rfl (Nat.le_of_ble_eq_true rfl) (by decide) (by decide) (u_Mo_add hE_4 (by decide) (by decide) (by decide) vr_4 r_5) (fun r M_6 hq => ?_)
  obtain ⟨rfl, E_6, hE_6, vr_6, ke_6, kp_6⟩ := hq
  obtain ⟨x_6, hx_6⟩ : ∃ z : Int, z = (x_4 + 1) := ⟨_, rfl⟩
  rw [← hx_6] at vr_6
  refine T_eq (pc' := 36) (L' := [(0, .ref 373), (1, .int (nI 16)), (2, .ref fr), (3, .int (nI at0))]) (st' := []) (M' := M_6) rfl rfl rfl rfl ?_
  refine T_aload_n (v := .ref 373) d_Mo_mapPart_36 rfl (Or.inr ⟨_, rfl⟩) ?_
  refine T_bipush (v := nI 22) d_Mo_mapPart_37 (by decide) ?_
  refine T_bipush (v := nI 22) d_Mo_mapPart_39 (by decide) ?_
  refine T_bipush (v := nI 6) d_Mo_mapPart_41 (by decide) ?_
  have r_7 := (ke_6 6 (by decide)).trans ((ke_4 6 (by decide)).trans ((ke_2 6 (by decide)).trans ((ke_1 6 (by decide)).trans (ck.c6))))
  refine T_virtual (as := [.int (nI 22), .int (nI 22), .int (nI 6)]) (rest := []) (b := 373) d_Mo_mapPart_43 rfl (jw_Mo_mul.jo (by decide)) lm_Mo_163 ji_Mo_mul js_Mo_mul hE_6.ob rfl rfl rfl (Nat.le_of_ble_eq_true rfl) (by decide) (by decide) (u_Mo_mul hE_6 (by decide) (by decide) (by decide) vr_6 r_7) (fun r M_8 hq => ?_)
  obtain ⟨rfl, E_8, hE_8, vr_8, ke_8, kp_8⟩ := hq
  obtain ⟨x_8, hx_8⟩ : ∃ z : Int, z = (x_6 * cO) := ⟨_, rfl⟩
  rw [← hx_8] at vr_8
  refine T_eq (pc' := 46) (L' := [(0, .ref 373), (1, .int (nI 16)), (2, .ref fr), (3, .int (nI at0))]) (st' := []) (M' := M_8) rfl rfl rfl rfl ?_
  refine T_aload_n (v := .ref 373) d_Mo_mapPart_46 rfl (Or.inr ⟨_, rfl⟩) ?_
  refine T_bipush (v := nI 23) d_Mo_mapPart_47 (by decide) ?_
  refine T_bipush (v := nI 21) d_Mo_mapPart_49 (by decide) ?_
  refine T_iconst (v := nI 2) d_Mo_mapPart_51 (by decide) ?_
  have r_9 := (ke_8 21 (by decide)).trans ((ke_6 21 (by decide)).trans (vr_4))
  have r_10 := (ke_8 2 (by decide)).trans ((ke_6 2 (by decide)).trans ((ke_4 2 (by decide)).trans ((ke_2 2 (by decide)).trans ((ke_1 2 (by decide)).trans (ck.c2)))))
  refine T_virtual (as := [.int (nI 23), .int (nI 21), .int (nI 2)]) (rest := []) (b := 373) d_Mo_mapPart_52 rfl (jw_Mo_mul.jo (by decide)) lm_Mo_163 ji_Mo_mul js_Mo_mul hE_8.ob rfl rfl rfl (Nat.le_of_ble_eq_true rfl) (by decide) (by decide) (u_Mo_mul hE_8 (by decide) (by decide) (by decide) r_9 r_10) (fun r M_11 hq => ?_)
  obtain ⟨rfl, E_11, hE_11, vr_11, ke_11, kp_11⟩ := hq
  obtain ⟨x_11, hx_11⟩ : ∃ z : Int, z = (x_4 * cD) := ⟨_, rfl⟩
  rw [← hx_11] at vr_11
  refine T_eq (pc' := 55) (L' := [(0, .ref 373), (1, .int (nI 16)), (2, .ref fr), (3, .int (nI at0))]) (st' := []) (M' := M_11) rfl rfl rfl rfl ?_
  refine T_aload_n (v := .ref 373) d_Mo_mapPart_55 rfl (Or.inr ⟨_, rfl⟩) ?_
  refine T_bipush (v := nI 23) d_Mo_mapPart_56 (by decide) ?_
  refine T_bipush (v := nI 23) d_Mo_mapPart_58 (by decide) ?_
  refine T_iconst (v := nI 1) d_Mo_mapPart_60 (by decide) ?_
  have r_12 := (ke_11 1 (by decide)).trans ((ke_8 1 (by decide)).trans ((ke_6 1 (by decide)).trans (r_5)))
  refine T_virtual (as := [.int (nI 23), .int (nI 23), .int (nI 1)]) (rest := []) (b := 373) d_Mo_mapPart_61 rfl (jw_Mo_add.jo (by decide)) lm_Mo_182 ji_Mo_add js_Mo_add hE_11.ob rfl rfl rfl (Nat.le_of_ble_eq_true rfl) (by decide) (by decide) (u_Mo_add hE_11 (by decide) (by decide) (by decide) vr_11 r_12) (fun r M_13 hq => ?_)
  obtain ⟨rfl, E_13, hE_13, vr_13, ke_13, kp_13⟩ := hq
  obtain ⟨x_13, hx_13⟩ : ∃ z : Int, z = (x_11 + 1) := ⟨_, rfl⟩
  rw [← hx_13] at vr_13
  refine T_eq (pc' := 64) (L' := [(0, .ref 373), (1, .int (nI 16)), (2, .ref fr), (3, .int (nI at0))]) (st' := []) (M' := M_13) rfl rfl rfl rfl ?_
  refine T_aload_n (v := .ref 373) d_Mo_mapPart_64 rfl (Or.inr ⟨_, rfl⟩) ?_
  refine T_bipush (v := nI 23) d_Mo_mapPart_65 (by decide) ?_
  refine T_iconst (v := nI 0) d_Mo_mapPart_67 (by decide) ?_
  refine T_bipush (v := nI 23) d_Mo_mapPart_68 (by decide) ?_
  have r_14 := (ke_13 0 (by decide)).trans ((ke_11 0 (by decide)).trans ((ke_8 0 (by decide)).trans ((ke_6 0 (by decide)).trans ((ke_4 0 (by decide)).trans ((ke_2 0 (by decide)).trans ((ke_1 0 (by decide)).trans (ck.c0)))))))
  refine T_virtual (as := [.int (nI 23), .int (nI 0), .int (nI 23)]) (rest := []) (b := 373) d_Mo_mapPart_70 rfl (jw_Mo_sub.jo (by decide)) lm_Mo_152 ji_Mo_sub js_Mo_sub hE_13.ob rfl rfl rfl (Nat.le_of_ble_eq_true rfl) (by decide) (by decide) (u_Mo_sub hE_13 (by decide) (by decide) (by decide) r_14 vr_13) (fun r M_15 hq => ?_)
  obtain ⟨rfl, E_15, hE_15, vr_15, ke_15, kp_15⟩ := hq
  obtain ⟨x_15, hx_15⟩ : ∃ z : Int, z = (0 - x_13) := ⟨_, rfl⟩
  rw [← hx_15] at vr_15
  refine T_eq (pc' := 73) (L' := [(0, .ref 373), (1, .int (nI 16)), (2, .ref fr), (3, .int (nI at0))]) (st' := []) (M' := M_15) rfl rfl rfl rfl ?_
  refine T_aload_n (v := .ref 373) d_Mo_mapPart_73 rfl (Or.inr ⟨_, rfl⟩) ?_
  refine T_bipush (v := nI 24) d_Mo_mapPart_74 (by decide) ?_
  refine T_bipush (v := nI 21) d_Mo_mapPart_76 (by decide) ?_
  refine T_iconst (v := nI 2) d_Mo_mapPart_78 (by decide) ?_
  have r_16 := (ke_15 21 (by decide)).trans ((ke_13 21 (by decide)).trans ((ke_11 21 (by decide)).trans (r_9)))
  have r_17 := (ke_15 2 (by decide)).trans ((ke_13 2 (by decide)).trans ((ke_11 2 (by decide)).trans (r_10)))
  refine T_virtual (as := [.int (nI 24), .int (nI 21), .int (nI 2)]) (rest := []) (b := 373) d_Mo_mapPart_79 rfl (jw_Mo_add.jo (by decide)) lm_Mo_182 ji_Mo_add js_Mo_add hE_15.ob rfl rfl rfl (Nat.le_of_ble_eq_true rfl) (by decide) (by decide) (u_Mo_add hE_15 (by decide) (by decide) (by decide) r_16 r_17) (fun r M_18 hq => ?_)
  obtain ⟨rfl, E_18, hE_18, vr_18, ke_18, kp_18⟩ := hq
  obtain ⟨x_18, hx_18⟩ : ∃ z : Int, z = (x_4 + cD) := ⟨_, rfl⟩
  rw [← hx_18] at vr_18
  refine T_eq (pc' := 82) (L' := [(0, .ref 373), (1, .int (nI 16)), (2, .ref fr), (3, .int (nI at0))]) (st' := []) (M' := M_18) rfl rfl rfl rfl ?_
  refine T_aload_n (v := .ref 373) d_Mo_mapPart_82 rfl (Or.inr ⟨_, rfl⟩) ?_
  refine T_bipush (v := nI 23) d_Mo_mapPart_83 (by decide) ?_
  refine T_bipush (v := nI 23) d_Mo_mapPart_85 (by decide) ?_
  refine T_bipush (v := nI 24) d_Mo_mapPart_87 (by decide) ?_
  have r_19 := (ke_18 23 (by decide)).trans (vr_15)
  refine T_virtual (as := [.int (nI 23), .int (nI 23), .int (nI 24)]) (rest := []) (b := 373) d_Mo_mapPart_89 rfl (jw_Mo_mul.jo (by decide)) lm_Mo_163 ji_Mo_mul js_Mo_mul hE_18.ob rfl rfl rfl (Nat.le_of_ble_eq_true rfl) (by decide) (by decide) (u_Mo_mul hE_18 (by decide) (by decide) (by decide) r_19 vr_18) (fun r M_20 hq => ?_)
  obtain ⟨rfl, E_20, hE_20, vr_20, ke_20, kp_20⟩ := hq
  obtain ⟨x_20, hx_20⟩ : ∃ z : Int, z = (x_15 * x_18) := ⟨_, rfl⟩
  rw [← hx_20] at vr_20
  refine T_eq (pc' := 92) (L' := [(0, .ref 373), (1, .int (nI 16)), (2, .ref fr), (3, .int (nI at0))]) (st' := []) (M' := M_20) rfl rfl rfl rfl ?_
  refine T_aload_n (v := .ref 373) d_Mo_mapPart_92 rfl (Or.inr ⟨_, rfl⟩) ?_
  refine T_bipush (v := nI 25) d_Mo_mapPart_93 (by decide) ?_
  refine T_bipush (v := nI 22) d_Mo_mapPart_95 (by decide) ?_
  refine T_bipush (v := nI 23) d_Mo_mapPart_97 (by decide) ?_
  have r_21 := (ke_20 22 (by decide)).trans ((ke_18 22 (by decide)).trans ((ke_15 22 (by decide)).trans ((ke_13 22 (by decide)).trans ((ke_11 22 (by decide)).trans (vr_8)))))
  have r_22 := (ke_20 0 (by decide)).trans ((ke_18 0 (by decide)).trans ((ke_15 0 (by decide)).trans (r_14)))
  have r_23 := (ke_20 3 (by decide)).trans ((ke_18 3 (by decide)).trans ((ke_15 3 (by decide)).trans ((ke_13 3 (by decide)).trans ((ke_11 3 (by decide)).trans ((ke_8 3 (by decide)).trans ((ke_6 3 (by decide)).trans ((ke_4 3 (by decide)).trans (r_3))))))))
  refine T_virtual (as := [.int (nI 25), .int (nI 22), .int (nI 23)]) (rest := []) (b := 373) d_Mo_mapPart_99 rfl (jw_Mo_root.jo (by decide)) lm_Mo_197 ji_Mo_root js_Mo_root hE_20.ob rfl rfl rfl (Nat.le_of_ble_eq_true rfl) (by decide) (by decide) (u_Mo_root hE_20 r_22 r_23 (by decide) (by decide) (by decide) (by decide) (by decide) r_21 vr_20) (fun r M_24 hq => ?_)
  obtain ⟨rfl, E_24, hE_24, vr_24, ke_24, kp_24⟩ := hq
  obtain ⟨x_24, hx_24⟩ : ∃ z : Int, z = (rt x_8 x_20) := ⟨_, rfl⟩
  rw [← hx_24] at vr_24
  have hg_24 := rtG_le x_8 x_20
  refine T_eq (pc' := 102) (L' := [(0, .ref 373), (1, .int (nI 16)), (2, .ref fr), (3, .int (nI at0))]) (st' := [.int (nI ((rtG x_8 x_20)))]) (M' := M_24) rfl rfl rfl rfl ?_
  refine T_istore (L' := [(4, .int (nI ((rtG x_8 x_20)))), (0, .ref 373), (1, .int (nI 16)), (2, .ref fr), (3, .int (nI at0))]) d_Mo_mapPart_102 (by decide) rfl ?_
  refine T_aload_n (v := .ref 373) d_Mo_mapPart_104 rfl (Or.inr ⟨_, rfl⟩) ?_
  refine T_bipush (v := nI 26) d_Mo_mapPart_105 (by decide) ?_
  refine T_iconst (v := nI 0) d_Mo_mapPart_107 (by decide) ?_
  refine T_iconst (v := nI 1) d_Mo_mapPart_108 (by decide) ?_
  have r_25 := (ke_24 0 (by decide)).trans (r_22)
  have r_26 := (ke_24 1 (by decide)).trans ((ke_20 1 (by decide)).trans ((ke_18 1 (by decide)).trans ((ke_15 1 (by decide)).trans ((ke_13 1 (by decide)).trans (r_12)))))
  refine T_virtual (as := [.int (nI 26), .int (nI 0), .int (nI 1)]) (rest := []) (b := 373) d_Mo_mapPart_109 rfl (jw_Mo_sub.jo (by decide)) lm_Mo_152 ji_Mo_sub js_Mo_sub hE_24.ob rfl rfl rfl (Nat.le_of_ble_eq_true rfl) (by decide) (by decide) (u_Mo_sub hE_24 (by decide) (by decide) (by decide) r_25 r_26) (fun r M_27 hq => ?_)
  obtain ⟨rfl, E_27, hE_27, vr_27, ke_27, kp_27⟩ := hq
  obtain ⟨x_27, hx_27⟩ : ∃ z : Int, z = (0 - 1) := ⟨_, rfl⟩
  rw [← hx_27] at vr_27
  refine T_eq (pc' := 112) (L' := [(4, .int (nI ((rtG x_8 x_20)))), (0, .ref 373), (1, .int (nI 16)), (2, .ref fr), (3, .int (nI at0))]) (st' := []) (M' := M_27) rfl rfl rfl rfl ?_
  refine T_iload d_Mo_mapPart_112 rfl ?_
  refine N_if_ne (b := (rtG x_8 x_20)) d_Mo_mapPart_114 (tgt := 153) rfl (by omega) (fun hgd => ?_) (fun hgd => ?_)
  ·
    refine T_aload_n (v := .ref 373) d_Mo_mapPart_153 rfl (Or.inr ⟨_, rfl⟩) ?_
    refine T_bipush (v := nI 27) d_Mo_mapPart_154 (by decide) ?_
    refine T_bipush (v := nI 21) d_Mo_mapPart_156 (by decide) ?_
    refine T_iconst (v := nI 1) d_Mo_mapPart_158 (by decide) ?_
    have r_28 := (ke_27 21 (by decide)).trans ((ke_24 21 (by decide)).trans ((ke_20 21 (by decide)).trans ((ke_18 21 (by decide)).trans (r_16))))
    have r_29 := (ke_27 1 (by decide)).trans (r_26)
    refine T_virtual (as := [.int (nI 27), .int (nI 21), .int (nI 1)]) (rest := []) (b := 373) d_Mo_mapPart_159 rfl (jw_Mo_sub.jo (by decide)) lm_Mo_152 ji_Mo_sub js_Mo_sub hE_27.ob rfl rfl rfl (Nat.le_of_ble_eq_true rfl) (by decide) (by decide) (u_Mo_sub hE_27 (by decide) (by decide) (by decide) r_28 r_29) (fun r M_30 hq => ?_)
    obtain ⟨rfl, E_30, hE_30, vr_30, ke_30, kp_30⟩ := hq
    obtain ⟨x_30, hx_30⟩ : ∃ z : Int, z = (x_4 - 1) := ⟨_, rfl⟩
    rw [← hx_30] at vr_30
    refine T_eq (pc' := 162) (L' := [(4, .int (nI ((rtG x_8 x_20)))), (0, .ref 373), (1, .int (nI 16)), (2, .ref fr), (3, .int (nI at0))]) (st' := []) (M' := M_30) rfl rfl rfl rfl ?_
    refine T_aload_n (v := .ref 373) d_Mo_mapPart_162 rfl (Or.inr ⟨_, rfl⟩) ?_
    refine T_bipush (v := nI 27) d_Mo_mapPart_163 (by decide) ?_
    refine T_bipush (v := nI 27) d_Mo_mapPart_165 (by decide) ?_
    refine T_bipush (v := nI 26) d_Mo_mapPart_167 (by decide) ?_
    have r_31 := (ke_30 26 (by decide)).trans (vr_27)
    refine T_virtual (as := [.int (nI 27), .int (nI 27), .int (nI 26)]) (rest := []) (b := 373) d_Mo_mapPart_169 rfl (jw_Mo_mul.jo (by decide)) lm_Mo_163 ji_Mo_mul js_Mo_mul hE_30.ob rfl rfl rfl (Nat.le_of_ble_eq_true rfl) (by decide) (by decide) (u_Mo_mul hE_30 (by decide) (by decide) (by decide) vr_30 r_31) (fun r M_32 hq => ?_)
    obtain ⟨rfl, E_32, hE_32, vr_32, ke_32, kp_32⟩ := hq
    obtain ⟨x_32, hx_32⟩ : ∃ z : Int, z = (x_30 * x_27) := ⟨_, rfl⟩
    rw [← hx_32] at vr_32
    refine T_eq (pc' := 172) (L' := [(4, .int (nI ((rtG x_8 x_20)))), (0, .ref 373), (1, .int (nI 16)), (2, .ref fr), (3, .int (nI at0))]) (st' := []) (M' := M_32) rfl rfl rfl rfl ?_
    refine T_aload_n (v := .ref 373) d_Mo_mapPart_172 rfl (Or.inr ⟨_, rfl⟩) ?_
    refine T_bipush (v := nI 27) d_Mo_mapPart_173 (by decide) ?_
    refine T_bipush (v := nI 27) d_Mo_mapPart_175 (by decide) ?_
    refine T_bipush (v := nI 7) d_Mo_mapPart_177 (by decide) ?_
    have r_33 := (ke_32 7 (by decide)).trans ((ke_30 7 (by decide)).trans ((ke_27 7 (by decide)).trans ((ke_24 7 (by decide)).trans ((ke_20 7 (by decide)).trans ((ke_18 7 (by decide)).trans ((ke_15 7 (by decide)).trans ((ke_13 7 (by decide)).trans ((ke_11 7 (by decide)).trans ((ke_8 7 (by decide)).trans ((ke_6 7 (by decide)).trans ((ke_4 7 (by decide)).trans ((ke_2 7 (by decide)).trans ((ke_1 7 (by decide)).trans (ck.c7))))))))))))))
    refine T_virtual (as := [.int (nI 27), .int (nI 27), .int (nI 7)]) (rest := []) (b := 373) d_Mo_mapPart_179 rfl (jw_Mo_mul.jo (by decide)) lm_Mo_163 ji_Mo_mul js_Mo_mul hE_32.ob rfl rfl rfl (Nat.le_of_ble_eq_true rfl) (by decide) (by decide) (u_Mo_mul hE_32 (by decide) (by decide) (by decide) vr_32 r_33) (fun r M_34 hq => ?_)
    obtain ⟨rfl, E_34, hE_34, vr_34, ke_34, kp_34⟩ := hq
    obtain ⟨x_34, hx_34⟩ : ∃ z : Int, z = (x_32 * cL) := ⟨_, rfl⟩
    rw [← hx_34] at vr_34
    refine T_eq (pc' := 182) (L' := [(4, .int (nI ((rtG x_8 x_20)))), (0, .ref 373), (1, .int (nI 16)), (2, .ref fr), (3, .int (nI at0))]) (st' := []) (M' := M_34) rfl rfl rfl rfl ?_
    refine T_aload_n (v := .ref 373) d_Mo_mapPart_182 rfl (Or.inr ⟨_, rfl⟩) ?_
    refine T_bipush (v := nI 27) d_Mo_mapPart_183 (by decide) ?_
    refine T_bipush (v := nI 27) d_Mo_mapPart_185 (by decide) ?_
    refine T_bipush (v := nI 23) d_Mo_mapPart_187 (by decide) ?_
    have r_35 := (ke_34 23 (by decide)).trans ((ke_32 23 (by decide)).trans ((ke_30 23 (by decide)).trans ((ke_27 23 (by decide)).trans ((ke_24 23 (by decide)).trans (vr_20)))))
    refine T_virtual (as := [.int (nI 27), .int (nI 27), .int (nI 23)]) (rest := []) (b := 373) d_Mo_mapPart_189 rfl (jw_Mo_sub.jo (by decide)) lm_Mo_152 ji_Mo_sub js_Mo_sub hE_34.ob rfl rfl rfl (Nat.le_of_ble_eq_true rfl) (by decide) (by decide) (u_Mo_sub hE_34 (by decide) (by decide) (by decide) vr_34 r_35) (fun r M_36 hq => ?_)
    obtain ⟨rfl, E_36, hE_36, vr_36, ke_36, kp_36⟩ := hq
    obtain ⟨x_36, hx_36⟩ : ∃ z : Int, z = (x_34 - x_20) := ⟨_, rfl⟩
    rw [← hx_36] at vr_36
    refine T_eq (pc' := 192) (L' := [(4, .int (nI ((rtG x_8 x_20)))), (0, .ref 373), (1, .int (nI 16)), (2, .ref fr), (3, .int (nI at0))]) (st' := []) (M' := M_36) rfl rfl rfl rfl ?_
    refine T_aload_n (v := .ref 373) d_Mo_mapPart_192 rfl (Or.inr ⟨_, rfl⟩) ?_
    refine T_bipush (v := nI 28) d_Mo_mapPart_193 (by decide) ?_
    refine T_bipush (v := nI 25) d_Mo_mapPart_195 (by decide) ?_
    refine T_bipush (v := nI 25) d_Mo_mapPart_197 (by decide) ?_
    have r_37 := (ke_36 25 (by decide)).trans ((ke_34 25 (by decide)).trans ((ke_32 25 (by decide)).trans ((ke_30 25 (by decide)).trans ((ke_27 25 (by decide)).trans (vr_24)))))
    refine T_virtual (as := [.int (nI 28), .int (nI 25), .int (nI 25)]) (rest := []) (b := 373) d_Mo_mapPart_199 rfl (jw_Mo_add.jo (by decide)) lm_Mo_182 ji_Mo_add js_Mo_add hE_36.ob rfl rfl rfl (Nat.le_of_ble_eq_true rfl) (by decide) (by decide) (u_Mo_add hE_36 (by decide) (by decide) (by decide) r_37 r_37) (fun r M_38 hq => ?_)
    obtain ⟨rfl, E_38, hE_38, vr_38, ke_38, kp_38⟩ := hq
    obtain ⟨x_38, hx_38⟩ : ∃ z : Int, z = (x_24 + x_24) := ⟨_, rfl⟩
    rw [← hx_38] at vr_38
    refine T_eq (pc' := 202) (L' := [(4, .int (nI ((rtG x_8 x_20)))), (0, .ref 373), (1, .int (nI 16)), (2, .ref fr), (3, .int (nI at0))]) (st' := []) (M' := M_38) rfl rfl rfl rfl ?_
    refine T_aload_n (v := .ref 373) d_Mo_mapPart_202 rfl (Or.inr ⟨_, rfl⟩) ?_
    refine T_bipush (v := nI 28) d_Mo_mapPart_203 (by decide) ?_
    refine T_bipush (v := nI 28) d_Mo_mapPart_205 (by decide) ?_
    refine T_bipush (v := nI 23) d_Mo_mapPart_207 (by decide) ?_
    have r_39 := (ke_38 23 (by decide)).trans ((ke_36 23 (by decide)).trans (r_35))
    refine T_virtual (as := [.int (nI 28), .int (nI 28), .int (nI 23)]) (rest := []) (b := 373) d_Mo_mapPart_209 rfl (jw_Mo_mul.jo (by decide)) lm_Mo_163 ji_Mo_mul js_Mo_mul hE_38.ob rfl rfl rfl (Nat.le_of_ble_eq_true rfl) (by decide) (by decide) (u_Mo_mul hE_38 (by decide) (by decide) (by decide) vr_38 r_39) (fun r M_40 hq => ?_)
    obtain ⟨rfl, E_40, hE_40, vr_40, ke_40, kp_40⟩ := hq
    obtain ⟨x_40, hx_40⟩ : ∃ z : Int, z = (x_38 * x_20) := ⟨_, rfl⟩
    rw [← hx_40] at vr_40
    refine T_eq (pc' := 212) (L' := [(4, .int (nI ((rtG x_8 x_20)))), (0, .ref 373), (1, .int (nI 16)), (2, .ref fr), (3, .int (nI at0))]) (st' := []) (M' := M_40) rfl rfl rfl rfl ?_
    refine T_aload_n (v := .ref 373) d_Mo_mapPart_212 rfl (Or.inr ⟨_, rfl⟩) ?_
    refine T_bipush (v := nI 29) d_Mo_mapPart_213 (by decide) ?_
    refine T_bipush (v := nI 27) d_Mo_mapPart_215 (by decide) ?_
    refine T_iconst (v := nI 5) d_Mo_mapPart_217 (by decide) ?_
    have r_41 := (ke_40 27 (by decide)).trans ((ke_38 27 (by decide)).trans (vr_36))
    have r_42 := (ke_40 5 (by decide)).trans ((ke_38 5 (by decide)).trans ((ke_36 5 (by decide)).trans ((ke_34 5 (by decide)).trans ((ke_32 5 (by decide)).trans ((ke_30 5 (by decide)).trans ((ke_27 5 (by decide)).trans ((ke_24 5 (by decide)).trans ((ke_20 5 (by decide)).trans ((ke_18 5 (by decide)).trans ((ke_15 5 (by decide)).trans ((ke_13 5 (by decide)).trans ((ke_11 5 (by decide)).trans ((ke_8 5 (by decide)).trans ((ke_6 5 (by decide)).trans ((ke_4 5 (by decide)).trans ((ke_2 5 (by decide)).trans ((ke_1 5 (by decide)).trans (ck.c5))))))))))))))))))
    refine T_virtual (as := [.int (nI 29), .int (nI 27), .int (nI 5)]) (rest := []) (b := 373) d_Mo_mapPart_218 rfl (jw_Mo_mul.jo (by decide)) lm_Mo_163 ji_Mo_mul js_Mo_mul hE_40.ob rfl rfl rfl (Nat.le_of_ble_eq_true rfl) (by decide) (by decide) (u_Mo_mul hE_40 (by decide) (by decide) (by decide) r_41 r_42) (fun r M_43 hq => ?_)
    obtain ⟨rfl, E_43, hE_43, vr_43, ke_43, kp_43⟩ := hq
    obtain ⟨x_43, hx_43⟩ : ∃ z : Int, z = (x_36 * cG) := ⟨_, rfl⟩
    rw [← hx_43] at vr_43
    refine T_eq (pc' := 221) (L' := [(4, .int (nI ((rtG x_8 x_20)))), (0, .ref 373), (1, .int (nI 16)), (2, .ref fr), (3, .int (nI at0))]) (st' := []) (M' := M_43) rfl rfl rfl rfl ?_
    refine T_aload_n (v := .ref 373) d_Mo_mapPart_221 rfl (Or.inr ⟨_, rfl⟩) ?_
    refine T_bipush (v := nI 30) d_Mo_mapPart_222 (by decide) ?_
    refine T_bipush (v := nI 25) d_Mo_mapPart_224 (by decide) ?_
    refine T_bipush (v := nI 25) d_Mo_mapPart_226 (by decide) ?_
    have r_44 := (ke_43 25 (by decide)).trans ((ke_40 25 (by decide)).trans ((ke_38 25 (by decide)).trans (r_37)))
    refine T_virtual (as := [.int (nI 30), .int (nI 25), .int (nI 25)]) (rest := []) (b := 373) d_Mo_mapPart_228 rfl (jw_Mo_mul.jo (by decide)) lm_Mo_163 ji_Mo_mul js_Mo_mul hE_43.ob rfl rfl rfl (Nat.le_of_ble_eq_true rfl) (by decide) (by decide) (u_Mo_mul hE_43 (by decide) (by decide) (by decide) r_44 r_44) (fun r M_45 hq => ?_)
    obtain ⟨rfl, E_45, hE_45, vr_45, ke_45, kp_45⟩ := hq
    obtain ⟨x_45, hx_45⟩ : ∃ z : Int, z = (x_24 * x_24) := ⟨_, rfl⟩
    rw [← hx_45] at vr_45
    refine T_eq (pc' := 231) (L' := [(4, .int (nI ((rtG x_8 x_20)))), (0, .ref 373), (1, .int (nI 16)), (2, .ref fr), (3, .int (nI at0))]) (st' := []) (M' := M_45) rfl rfl rfl rfl ?_
    refine T_aload_n (v := .ref 373) d_Mo_mapPart_231 rfl (Or.inr ⟨_, rfl⟩) ?_
    refine T_bipush (v := nI 31) d_Mo_mapPart_232 (by decide) ?_
    refine T_iconst (v := nI 1) d_Mo_mapPart_234 (by decide) ?_
    refine T_bipush (v := nI 30) d_Mo_mapPart_235 (by decide) ?_
    have r_46 := (ke_45 1 (by decide)).trans ((ke_43 1 (by decide)).trans ((ke_40 1 (by decide)).trans ((ke_38 1 (by decide)).trans ((ke_36 1 (by decide)).trans ((ke_34 1 (by decide)).trans ((ke_32 1 (by decide)).trans ((ke_30 1 (by decide)).trans (r_29))))))))
    refine T_virtual (as := [.int (nI 31), .int (nI 1), .int (nI 30)]) (rest := []) (b := 373) d_Mo_mapPart_237 rfl (jw_Mo_sub.jo (by decide)) lm_Mo_152 ji_Mo_sub js_Mo_sub hE_45.ob rfl rfl rfl (Nat.le_of_ble_eq_true rfl) (by decide) (by decide) (u_Mo_sub hE_45 (by decide) (by decide) (by decide) r_46 vr_45) (fun r M_47 hq => ?_)
    obtain ⟨rfl, E_47, hE_47, vr_47, ke_47, kp_47⟩ := hq
    obtain ⟨x_47, hx_47⟩ : ∃ z : Int, z = (1 - x_45) := ⟨_, rfl⟩
    rw [← hx_47] at vr_47
    refine T_eq (pc' := 240) (L' := [(4, .int (nI ((rtG x_8 x_20)))), (0, .ref 373), (1, .int (nI 16)), (2, .ref fr), (3, .int (nI at0))]) (st' := []) (M' := M_47) rfl rfl rfl rfl ?_
    refine T_aload_n (v := .ref 373) d_Mo_mapPart_240 rfl (Or.inr ⟨_, rfl⟩) ?_
    refine T_bipush (v := nI 30) d_Mo_mapPart_241 (by decide) ?_
    refine T_iconst (v := nI 1) d_Mo_mapPart_243 (by decide) ?_
    refine T_bipush (v := nI 30) d_Mo_mapPart_244 (by decide) ?_
    have r_48 := (ke_47 1 (by decide)).trans (r_46)
    have r_49 := (ke_47 30 (by decide)).trans (vr_45)
    refine T_virtual (as := [.int (nI 30), .int (nI 1), .int (nI 30)]) (rest := []) (b := 373) d_Mo_mapPart_246 rfl (jw_Mo_add.jo (by decide)) lm_Mo_182 ji_Mo_add js_Mo_add hE_47.ob rfl rfl rfl (Nat.le_of_ble_eq_true rfl) (by decide) (by decide) (u_Mo_add hE_47 (by decide) (by decide) (by decide) r_48 r_49) (fun r M_50 hq => ?_)
    obtain ⟨rfl, E_50, hE_50, vr_50, ke_50, kp_50⟩ := hq
    obtain ⟨x_50, hx_50⟩ : ∃ z : Int, z = (1 + x_45) := ⟨_, rfl⟩
    rw [← hx_50] at vr_50
    refine T_eq (pc' := 249) (L' := [(4, .int (nI ((rtG x_8 x_20)))), (0, .ref 373), (1, .int (nI 16)), (2, .ref fr), (3, .int (nI at0))]) (st' := []) (M' := M_50) rfl rfl rfl rfl ?_
    refine T_aload_n (v := .ref 373) d_Mo_mapPart_249 rfl (Or.inr ⟨_, rfl⟩) ?_
    refine T_iload_n d_Mo_mapPart_250 rfl ?_
    refine T_bipush (v := nI 28) d_Mo_mapPart_251 (by decide) ?_
    refine T_bipush (v := nI 30) d_Mo_mapPart_253 (by decide) ?_
    have r_51 := (ke_50 28 (by decide)).trans ((ke_47 28 (by decide)).trans ((ke_45 28 (by decide)).trans ((ke_43 28 (by decide)).trans (vr_40))))
    refine T_virtual (as := [.int (nI 16), .int (nI 28), .int (nI 30)]) (rest := []) (b := 373) d_Mo_mapPart_255 rfl (jw_Mo_mul.jo (by decide)) lm_Mo_163 ji_Mo_mul js_Mo_mul hE_50.ob rfl rfl rfl (Nat.le_of_ble_eq_true rfl) (by decide) (by decide) (u_Mo_mul hE_50 (by decide) (by decide) (by decide) r_51 vr_50) (fun r M_52 hq => ?_)
    obtain ⟨rfl, E_52, hE_52, vr_52, ke_52, kp_52⟩ := hq
    obtain ⟨x_52, hx_52⟩ : ∃ z : Int, z = (x_40 * x_50) := ⟨_, rfl⟩
    rw [← hx_52] at vr_52
    refine T_eq (pc' := 258) (L' := [(4, .int (nI ((rtG x_8 x_20)))), (0, .ref 373), (1, .int (nI 16)), (2, .ref fr), (3, .int (nI at0))]) (st' := []) (M' := M_52) rfl rfl rfl rfl ?_
    refine T_aload_n (v := .ref 373) d_Mo_mapPart_258 rfl (Or.inr ⟨_, rfl⟩) ?_
    refine T_iload_n d_Mo_mapPart_259 rfl ?_
    refine T_iconst (v := nI 1) d_Mo_mapPart_260 (by decide) ?_
    refine N_iadd (a := 1) (b := 16) (c := 17) d_Mo_mapPart_261 rfl ?_
    refine T_bipush (v := nI 31) d_Mo_mapPart_262 (by decide) ?_
    refine T_bipush (v := nI 29) d_Mo_mapPart_264 (by decide) ?_
    have r_53 := (ke_52 31 (by decide)).trans ((ke_50 31 (by decide)).trans (vr_47))
    have r_54 := (ke_52 29 (by decide)).trans ((ke_50 29 (by decide)).trans ((ke_47 29 (by decide)).trans ((ke_45 29 (by decide)).trans (vr_43))))
    refine T_virtual (as := [.int (nI 17), .int (nI 31), .int (nI 29)]) (rest := []) (b := 373) d_Mo_mapPart_266 rfl (jw_Mo_mul.jo (by decide)) lm_Mo_163 ji_Mo_mul js_Mo_mul hE_52.ob rfl rfl rfl (Nat.le_of_ble_eq_true rfl) (by decide) (by decide) (u_Mo_mul hE_52 (by decide) (by decide) (by decide) r_53 r_54) (fun r M_55 hq => ?_)
    obtain ⟨rfl, E_55, hE_55, vr_55, ke_55, kp_55⟩ := hq
    obtain ⟨x_55, hx_55⟩ : ∃ z : Int, z = (x_47 * x_43) := ⟨_, rfl⟩
    rw [← hx_55] at vr_55
    refine T_eq (pc' := 269) (L' := [(4, .int (nI ((rtG x_8 x_20)))), (0, .ref 373), (1, .int (nI 16)), (2, .ref fr), (3, .int (nI at0))]) (st' := []) (M' := M_55) rfl rfl rfl rfl ?_
    refine T_aload_n (v := .ref 373) d_Mo_mapPart_269 rfl (Or.inr ⟨_, rfl⟩) ?_
    refine T_iload_n d_Mo_mapPart_270 rfl ?_
    refine T_iconst (v := nI 2) d_Mo_mapPart_271 (by decide) ?_
    refine N_iadd (a := 2) (b := 16) (c := 18) d_Mo_mapPart_272 rfl ?_
    refine T_bipush (v := nI 29) d_Mo_mapPart_273 (by decide) ?_
    refine T_bipush (v := nI 30) d_Mo_mapPart_275 (by decide) ?_
    have r_56 := (ke_55 29 (by decide)).trans (r_54)
    have r_57 := (ke_55 30 (by decide)).trans ((ke_52 30 (by decide)).trans (vr_50))
    refine T_virtual (as := [.int (nI 18), .int (nI 29), .int (nI 30)]) (rest := []) (b := 373) d_Mo_mapPart_277 rfl (jw_Mo_mul.jo (by decide)) lm_Mo_163 ji_Mo_mul js_Mo_mul hE_55.ob rfl rfl rfl (Nat.le_of_ble_eq_true rfl) (by decide) (by decide) (u_Mo_mul hE_55 (by decide) (by decide) (by decide) r_56 r_57) (fun r M_58 hq => ?_)
    obtain ⟨rfl, E_58, hE_58, vr_58, ke_58, kp_58⟩ := hq
    obtain ⟨x_58, hx_58⟩ : ∃ z : Int, z = (x_43 * x_50) := ⟨_, rfl⟩
    rw [← hx_58] at vr_58
    refine T_eq (pc' := 280) (L' := [(4, .int (nI ((rtG x_8 x_20)))), (0, .ref 373), (1, .int (nI 16)), (2, .ref fr), (3, .int (nI at0))]) (st' := []) (M' := M_58) rfl rfl rfl rfl ?_
    refine T_aload_n (v := .ref 373) d_Mo_mapPart_280 rfl (Or.inr ⟨_, rfl⟩) ?_
    refine T_iload_n d_Mo_mapPart_281 rfl ?_
    refine T_iconst (v := nI 3) d_Mo_mapPart_282 (by decide) ?_
    refine N_iadd (a := 3) (b := 16) (c := 19) d_Mo_mapPart_283 rfl ?_
    refine T_bipush (v := nI 28) d_Mo_mapPart_284 (by decide) ?_
    refine T_bipush (v := nI 31) d_Mo_mapPart_286 (by decide) ?_
    have r_59 := (ke_58 28 (by decide)).trans ((ke_55 28 (by decide)).trans ((ke_52 28 (by decide)).trans (r_51)))
    have r_60 := (ke_58 31 (by decide)).trans ((ke_55 31 (by decide)).trans (r_53))
    refine T_virtual (as := [.int (nI 19), .int (nI 28), .int (nI 31)]) (rest := []) (b := 373) d_Mo_mapPart_288 rfl (jw_Mo_mul.jo (by decide)) lm_Mo_163 ji_Mo_mul js_Mo_mul hE_58.ob rfl rfl rfl (Nat.le_of_ble_eq_true rfl) (by decide) (by decide) (u_Mo_mul hE_58 (by decide) (by decide) (by decide) r_59 r_60) (fun r M_61 hq => ?_)
    obtain ⟨rfl, E_61, hE_61, vr_61, ke_61, kp_61⟩ := hq
    obtain ⟨x_61, hx_61⟩ : ∃ z : Int, z = (x_40 * x_47) := ⟨_, rfl⟩
    rw [← hx_61] at vr_61
    refine T_eq (pc' := 291) (L' := [(4, .int (nI ((rtG x_8 x_20)))), (0, .ref 373), (1, .int (nI 16)), (2, .ref fr), (3, .int (nI at0))]) (st' := []) (M' := M_61) rfl rfl rfl rfl ?_
    have t0 : ph x_1 = ph (num32 (fun k => (b k : Int)) % n255) := by rw [hx_1]
    generalize ph (num32 (fun k => (b k : Int)) % n255) = t at *
    have r1 : ph x_4 = t * t * fI := by rw [hx_4, ph_mul, hx_2, ph_mul, t0, ph_cI]
    generalize hr : t * t * fI = r at r1
    have uu : ph x_8 = gU_ r := by rw [hx_8, ph_mul, hx_6, ph_add, r1, ph_1, ph_cO]; rfl
    have vv : ph x_20 = gV_ r := by rw [hx_20, ph_mul, hx_15, ph_zs, hx_13, ph_add, hx_11, ph_mul, hx_18, ph_add, r1, ph_1, ph_cD]; rfl
    have rr : ph x_24 = rR (gU_ r) (gV_ r) := by rw [hx_24, ph_rt, uu, vv]
    have gi := rtG_1 x_8 x_20
    rw [uu, vv] at gi
    have gd : rG (gU_ r) (gV_ r) := gi.mp (by omega)
    have ss : ph x_24 = gS_ t r := by rw [rr]; unfold gS_; rw [if_pos gd]
    have cc : ph x_27 = gC_ t r := by rw [hx_27, ph_zs, ph_1]; unfold gC_; rw [if_pos gd]
    have nn : ph x_36 = gN_ t r := by
      rw [hx_36, ph_sub, vv, hx_34, ph_mul, hx_32, ph_mul, hx_30, ph_sub, cc, r1, ph_1, ph_cL]; unfold gN_; grind -lia -linarith
    have w0 : ph x_40 = (gS_ t r + gS_ t r) * gV_ r := by rw [hx_40, ph_mul, hx_38, ph_add, ss, vv]
    have w1 : ph x_43 = gN_ t r * fG := by rw [hx_43, ph_mul, nn, ph_cG]
    have w3 : ph x_50 = 1 + gS_ t r * gS_ t r := by rw [hx_50, ph_add, hx_45, ph_mul, ss, ph_1]
    have w2 : ph x_47 = 1 - gS_ t r * gS_ t r := by rw [hx_47, ph_sub, hx_45, ph_mul, ss, ph_1]
    have q0 : ph x_52 = gX_ t := by unfold gX_; rw [hr, hx_52, ph_mul, w0, w3]
    have q1 : ph x_55 = gY_ t := by unfold gY_; rw [hr, hx_55, ph_mul, w2, w1]
    have q2 : ph x_58 = gZ_ t := by unfold gZ_; rw [hr, hx_58, ph_mul, w1, w3]
    have q3 : ph x_61 = gT_ t := by unfold gT_; rw [hr, hx_61, ph_mul, w0, w2]
    have r_62 := (ke_61 16 (by decide)).trans ((ke_58 16 (by decide)).trans ((ke_55 16 (by decide)).trans (vr_52)))
    have r_63 := (ke_61 17 (by decide)).trans ((ke_58 17 (by decide)).trans (vr_55))
    have r_64 := (ke_61 18 (by decide)).trans (vr_58)
    exact T_vret d_Mo_mapPart_291 rfl (by decide) (by decide) ⟨rfl, _, _, _, _, ⟨q0, q1, q2, q3⟩, E_61, hE_61, ⟨r_62, r_63, r_64, vr_61⟩, (KE.tr (KE.tr (KE.tr (KE.tr (KE.tr (KE.tr (KE.tr (KE.tr (KE.tr (KE.tr (KE.tr (KE.tr (KE.tr (KE.tr (KE.tr (KE.tr (KE.tr (KE.tr (KE.tr (KE.tr (KE.tr (KE.tr (KE.tr (KE.tr (KE.tr (KE.tr (KE.rf : KE [20, 21, 22, 23, 24, 25, 26, 27, 28, 29, 30, 31, 50, 51, 52, 53, 54, 55, 56, 61, 62, 63, 16, 17, 18, 19] E E) (KE.mono ke_1 (by decide))) (KE.mono ke_2 (by decide))) (KE.mono ke_4 (by decide))) (KE.mono ke_6 (by decide))) (KE.mono ke_8 (by decide))) (KE.mono ke_11 (by decide))) (KE.mono ke_13 (by decide))) (KE.mono ke_15 (by decide))) (KE.mono ke_18 (by decide))) (KE.mono ke_20 (by decide))) (KE.mono ke_24 (by decide))) (KE.mono ke_27 (by decide))) (KE.mono ke_30 (by decide))) (KE.mono ke_32 (by decide))) (KE.mono ke_34 (by decide))) (KE.mono ke_36 (by decide))) (KE.mono ke_38 (by decide))) (KE.mono ke_40 (by decide))) (KE.mono ke_43 (by decide))) (KE.mono ke_45 (by decide))) (KE.mono ke_47 (by decide))) (KE.mono ke_50 (by decide))) (KE.mono ke_52 (by decide))) (KE.mono ke_55 (by decide))) (KE.mono ke_58 (by decide))) (KE.mono ke_61 (by decide))), (Kp.tr (Kp.tr (Kp.tr (Kp.tr (Kp.tr (Kp.tr (Kp.tr (Kp.tr (Kp.tr (Kp.tr (Kp.tr (Kp.tr (Kp.tr (Kp.tr (Kp.tr (Kp.tr (Kp.tr (Kp.tr (Kp.tr (Kp.tr (Kp.tr (Kp.tr (Kp.tr (Kp.tr (Kp.tr (Kp.tr (Kp.rf : Kp [390, 391, 392, 393, 394] M M) (Kp.mono kp_1 (by decide))) (Kp.mono kp_2 (by decide))) (Kp.mono kp_4 (by decide))) (Kp.mono kp_6 (by decide))) (Kp.mono kp_8 (by decide))) (Kp.mono kp_11 (by decide))) (Kp.mono kp_13 (by decide))) (Kp.mono kp_15 (by decide))) (Kp.mono kp_18 (by decide))) (Kp.mono kp_20 (by decide))) (Kp.mono kp_24 (by decide))) (Kp.mono kp_27 (by decide))) (Kp.mono kp_30 (by decide))) (Kp.mono kp_32 (by decide))) (Kp.mono kp_34 (by decide))) (Kp.mono kp_36 (by decide))) (Kp.mono kp_38 (by decide))) (Kp.mono kp_40 (by decide))) (Kp.mono kp_43 (by decide))) (Kp.mono kp_45 (by decide))) (Kp.mono kp_47 (by decide))) (Kp.mono kp_50 (by decide))) (Kp.mono kp_52 (by decide))) (Kp.mono kp_55 (by decide))) (Kp.mono kp_58 (by decide))) (Kp.mono kp_61 (by decide)))⟩
  ·
    refine T_aload_n (v := .ref 373) d_Mo_mapPart_117 rfl (Or.inr ⟨_, rfl⟩) ?_
    refine T_bipush (v := nI 25) d_Mo_mapPart_118 (by decide) ?_
    refine T_bipush (v := nI 25) d_Mo_mapPart_120 (by decide) ?_
    refine T_bipush (v := nI 20) d_Mo_mapPart_122 (by decide) ?_
    have r_65 := (ke_27 25 (by decide)).trans (vr_24)
    have r_66 := (ke_27 20 (by decide)).trans ((ke_24 20 (by decide)).trans ((ke_20 20 (by decide)).trans ((ke_18 20 (by decide)).trans ((ke_15 20 (by decide)).trans ((ke_13 20 (by decide)).trans ((ke_11 20 (by decide)).trans ((ke_8 20 (by decide)).trans ((ke_6 20 (by decide)).trans ((ke_4 20 (by decide)).trans ((ke_2 20 (by decide)).trans (vr_1)))))))))))
    refine T_virtual (as := [.int (nI 25), .int (nI 25), .int (nI 20)]) (rest := []) (b := 373) d_Mo_mapPart_124 rfl (jw_Mo_mul.jo (by decide)) lm_Mo_163 ji_Mo_mul js_Mo_mul hE_27.ob rfl rfl rfl (Nat.le_of_ble_eq_true rfl) (by decide) (by decide) (u_Mo_mul hE_27 (by decide) (by decide) (by decide) r_65 r_66) (fun r M_67 hq => ?_)
    obtain ⟨rfl, E_67, hE_67, vr_67, ke_67, kp_67⟩ := hq
    obtain ⟨x_67, hx_67⟩ : ∃ z : Int, z = (x_24 * x_1) := ⟨_, rfl⟩
    rw [← hx_67] at vr_67
    refine T_eq (pc' := 127) (L' := [(4, .int (nI ((rtG x_8 x_20)))), (0, .ref 373), (1, .int (nI 16)), (2, .ref fr), (3, .int (nI at0))]) (st' := []) (M' := M_67) rfl rfl rfl rfl ?_
    refine T_aload_n (v := .ref 373) d_Mo_mapPart_127 rfl (Or.inr ⟨_, rfl⟩) ?_
    refine T_bipush (v := nI 25) d_Mo_mapPart_128 (by decide) ?_
    refine T_virtual (as := [.int (nI 25)]) (rest := []) (b := 373) d_Mo_mapPart_130 rfl (jw_Mo_odd.jo (by decide)) lm_Mo_174 ji_Mo_odd js_Mo_odd hE_67.ob rfl rfl rfl (Nat.le_of_ble_eq_true rfl) (by decide) (by decide) (u_Mo_odd hE_67 (by decide) vr_67) (fun r M_68 hq => ?_)
    obtain ⟨rfl, pk_68, E_68, hE_68, ke_68, kp_68⟩ := hq
    by_cases hb_68 : (x_67 % pP) % 2 = 1
    · rw [if_pos hb_68]
      refine T_eq (pc' := 133) (L' := [(4, .int (nI ((rtG x_8 x_20)))), (0, .ref 373), (1, .int (nI 16)), (2, .ref fr), (3, .int (nI at0))]) (st' := [.int (nI 1)]) (M' := M_68) rfl rfl rfl rfl ?_
      refine N_if_ne_t (b := 1) d_Mo_mapPart_133 (tgt := 145) rfl (by omega) (by omega) ?_
      refine T_aload_n (v := .ref 373) d_Mo_mapPart_145 rfl (Or.inr ⟨_, rfl⟩) ?_
      refine T_bipush (v := nI 26) d_Mo_mapPart_146 (by decide) ?_
      refine T_bipush (v := nI 21) d_Mo_mapPart_148 (by decide) ?_
      have r_69 := (ke_68 21 (by decide)).trans ((ke_67 21 (by decide)).trans ((ke_27 21 (by decide)).trans ((ke_24 21 (by decide)).trans ((ke_20 21 (by decide)).trans ((ke_18 21 (by decide)).trans (r_16))))))
      refine T_virtual (as := [.int (nI 26), .int (nI 21)]) (rest := []) (b := 373) d_Mo_mapPart_150 rfl (jw_Mo_set.jo (by decide)) lm_Mo_160 ji_Mo_set js_Mo_set hE_68.ob rfl rfl rfl (Nat.le_of_ble_eq_true rfl) (by decide) (by decide) (u_Mo_set hE_68 (by decide) (by decide) r_69) (fun r M_70 hq => ?_)
      obtain ⟨rfl, E_70, hE_70, vr_70, ke_70, kp_70⟩ := hq
      obtain ⟨x_70, hx_70⟩ : ∃ z : Int, z = x_4 := ⟨_, rfl⟩
      rw [← hx_70] at vr_70
      refine T_eq (pc' := 153) (L' := [(4, .int (nI ((rtG x_8 x_20)))), (0, .ref 373), (1, .int (nI 16)), (2, .ref fr), (3, .int (nI at0))]) (st' := []) (M' := M_70) rfl rfl rfl rfl ?_
      refine T_aload_n (v := .ref 373) d_Mo_mapPart_153 rfl (Or.inr ⟨_, rfl⟩) ?_
      refine T_bipush (v := nI 27) d_Mo_mapPart_154 (by decide) ?_
      refine T_bipush (v := nI 21) d_Mo_mapPart_156 (by decide) ?_
      refine T_iconst (v := nI 1) d_Mo_mapPart_158 (by decide) ?_
      have r_71 := (ke_70 21 (by decide)).trans (r_69)
      have r_72 := (ke_70 1 (by decide)).trans ((ke_68 1 (by decide)).trans ((ke_67 1 (by decide)).trans ((ke_27 1 (by decide)).trans (r_26))))
      refine T_virtual (as := [.int (nI 27), .int (nI 21), .int (nI 1)]) (rest := []) (b := 373) d_Mo_mapPart_159 rfl (jw_Mo_sub.jo (by decide)) lm_Mo_152 ji_Mo_sub js_Mo_sub hE_70.ob rfl rfl rfl (Nat.le_of_ble_eq_true rfl) (by decide) (by decide) (u_Mo_sub hE_70 (by decide) (by decide) (by decide) r_71 r_72) (fun r M_73 hq => ?_)
      obtain ⟨rfl, E_73, hE_73, vr_73, ke_73, kp_73⟩ := hq
      obtain ⟨x_73, hx_73⟩ : ∃ z : Int, z = (x_4 - 1) := ⟨_, rfl⟩
      rw [← hx_73] at vr_73
      refine T_eq (pc' := 162) (L' := [(4, .int (nI ((rtG x_8 x_20)))), (0, .ref 373), (1, .int (nI 16)), (2, .ref fr), (3, .int (nI at0))]) (st' := []) (M' := M_73) rfl rfl rfl rfl ?_
      refine T_aload_n (v := .ref 373) d_Mo_mapPart_162 rfl (Or.inr ⟨_, rfl⟩) ?_
      refine T_bipush (v := nI 27) d_Mo_mapPart_163 (by decide) ?_
      refine T_bipush (v := nI 27) d_Mo_mapPart_165 (by decide) ?_
      refine T_bipush (v := nI 26) d_Mo_mapPart_167 (by decide) ?_
      have r_74 := (ke_73 26 (by decide)).trans (vr_70)
      refine T_virtual (as := [.int (nI 27), .int (nI 27), .int (nI 26)]) (rest := []) (b := 373) d_Mo_mapPart_169 rfl (jw_Mo_mul.jo (by decide)) lm_Mo_163 ji_Mo_mul js_Mo_mul hE_73.ob rfl rfl rfl (Nat.le_of_ble_eq_true rfl) (by decide) (by decide) (u_Mo_mul hE_73 (by decide) (by decide) (by decide) vr_73 r_74) (fun r M_75 hq => ?_)
      obtain ⟨rfl, E_75, hE_75, vr_75, ke_75, kp_75⟩ := hq
      obtain ⟨x_75, hx_75⟩ : ∃ z : Int, z = (x_73 * x_70) := ⟨_, rfl⟩
      rw [← hx_75] at vr_75
      refine T_eq (pc' := 172) (L' := [(4, .int (nI ((rtG x_8 x_20)))), (0, .ref 373), (1, .int (nI 16)), (2, .ref fr), (3, .int (nI at0))]) (st' := []) (M' := M_75) rfl rfl rfl rfl ?_
      refine T_aload_n (v := .ref 373) d_Mo_mapPart_172 rfl (Or.inr ⟨_, rfl⟩) ?_
      refine T_bipush (v := nI 27) d_Mo_mapPart_173 (by decide) ?_
      refine T_bipush (v := nI 27) d_Mo_mapPart_175 (by decide) ?_
      refine T_bipush (v := nI 7) d_Mo_mapPart_177 (by decide) ?_
      have r_76 := (ke_75 7 (by decide)).trans ((ke_73 7 (by decide)).trans ((ke_70 7 (by decide)).trans ((ke_68 7 (by decide)).trans ((ke_67 7 (by decide)).trans ((ke_27 7 (by decide)).trans ((ke_24 7 (by decide)).trans ((ke_20 7 (by decide)).trans ((ke_18 7 (by decide)).trans ((ke_15 7 (by decide)).trans ((ke_13 7 (by decide)).trans ((ke_11 7 (by decide)).trans ((ke_8 7 (by decide)).trans ((ke_6 7 (by decide)).trans ((ke_4 7 (by decide)).trans ((ke_2 7 (by decide)).trans ((ke_1 7 (by decide)).trans (ck.c7)))))))))))))))))
      refine T_virtual (as := [.int (nI 27), .int (nI 27), .int (nI 7)]) (rest := []) (b := 373) d_Mo_mapPart_179 rfl (jw_Mo_mul.jo (by decide)) lm_Mo_163 ji_Mo_mul js_Mo_mul hE_75.ob rfl rfl rfl (Nat.le_of_ble_eq_true rfl) (by decide) (by decide) (u_Mo_mul hE_75 (by decide) (by decide) (by decide) vr_75 r_76) (fun r M_77 hq => ?_)
      obtain ⟨rfl, E_77, hE_77, vr_77, ke_77, kp_77⟩ := hq
      obtain ⟨x_77, hx_77⟩ : ∃ z : Int, z = (x_75 * cL) := ⟨_, rfl⟩
      rw [← hx_77] at vr_77
      refine T_eq (pc' := 182) (L' := [(4, .int (nI ((rtG x_8 x_20)))), (0, .ref 373), (1, .int (nI 16)), (2, .ref fr), (3, .int (nI at0))]) (st' := []) (M' := M_77) rfl rfl rfl rfl ?_
      refine T_aload_n (v := .ref 373) d_Mo_mapPart_182 rfl (Or.inr ⟨_, rfl⟩) ?_
      refine T_bipush (v := nI 27) d_Mo_mapPart_183 (by decide) ?_
      refine T_bipush (v := nI 27) d_Mo_mapPart_185 (by decide) ?_
      refine T_bipush (v := nI 23) d_Mo_mapPart_187 (by decide) ?_
      have r_78 := (ke_77 23 (by decide)).trans ((ke_75 23 (by decide)).trans ((ke_73 23 (by decide)).trans ((ke_70 23 (by decide)).trans ((ke_68 23 (by decide)).trans ((ke_67 23 (by decide)).trans ((ke_27 23 (by decide)).trans ((ke_24 23 (by decide)).trans (vr_20))))))))
      refine T_virtual (as := [.int (nI 27), .int (nI 27), .int (nI 23)]) (rest := []) (b := 373) d_Mo_mapPart_189 rfl (jw_Mo_sub.jo (by decide)) lm_Mo_152 ji_Mo_sub js_Mo_sub hE_77.ob rfl rfl rfl (Nat.le_of_ble_eq_true rfl) (by decide) (by decide) (u_Mo_sub hE_77 (by decide) (by decide) (by decide) vr_77 r_78) (fun r M_79 hq => ?_)
      obtain ⟨rfl, E_79, hE_79, vr_79, ke_79, kp_79⟩ := hq
      obtain ⟨x_79, hx_79⟩ : ∃ z : Int, z = (x_77 - x_20) := ⟨_, rfl⟩
      rw [← hx_79] at vr_79
      refine T_eq (pc' := 192) (L' := [(4, .int (nI ((rtG x_8 x_20)))), (0, .ref 373), (1, .int (nI 16)), (2, .ref fr), (3, .int (nI at0))]) (st' := []) (M' := M_79) rfl rfl rfl rfl ?_
      refine T_aload_n (v := .ref 373) d_Mo_mapPart_192 rfl (Or.inr ⟨_, rfl⟩) ?_
      refine T_bipush (v := nI 28) d_Mo_mapPart_193 (by decide) ?_
      refine T_bipush (v := nI 25) d_Mo_mapPart_195 (by decide) ?_
      refine T_bipush (v := nI 25) d_Mo_mapPart_197 (by decide) ?_
      have r_80 := (ke_79 25 (by decide)).trans ((ke_77 25 (by decide)).trans ((ke_75 25 (by decide)).trans ((ke_73 25 (by decide)).trans ((ke_70 25 (by decide)).trans ((ke_68 25 (by decide)).trans (vr_67))))))
      refine T_virtual (as := [.int (nI 28), .int (nI 25), .int (nI 25)]) (rest := []) (b := 373) d_Mo_mapPart_199 rfl (jw_Mo_add.jo (by decide)) lm_Mo_182 ji_Mo_add js_Mo_add hE_79.ob rfl rfl rfl (Nat.le_of_ble_eq_true rfl) (by decide) (by decide) (u_Mo_add hE_79 (by decide) (by decide) (by decide) r_80 r_80) (fun r M_81 hq => ?_)
      obtain ⟨rfl, E_81, hE_81, vr_81, ke_81, kp_81⟩ := hq
      obtain ⟨x_81, hx_81⟩ : ∃ z : Int, z = (x_67 + x_67) := ⟨_, rfl⟩
      rw [← hx_81] at vr_81
      refine T_eq (pc' := 202) (L' := [(4, .int (nI ((rtG x_8 x_20)))), (0, .ref 373), (1, .int (nI 16)), (2, .ref fr), (3, .int (nI at0))]) (st' := []) (M' := M_81) rfl rfl rfl rfl ?_
      refine T_aload_n (v := .ref 373) d_Mo_mapPart_202 rfl (Or.inr ⟨_, rfl⟩) ?_
      refine T_bipush (v := nI 28) d_Mo_mapPart_203 (by decide) ?_
      refine T_bipush (v := nI 28) d_Mo_mapPart_205 (by decide) ?_
      refine T_bipush (v := nI 23) d_Mo_mapPart_207 (by decide) ?_
      have r_82 := (ke_81 23 (by decide)).trans ((ke_79 23 (by decide)).trans (r_78))
      refine T_virtual (as := [.int (nI 28), .int (nI 28), .int (nI 23)]) (rest := []) (b := 373) d_Mo_mapPart_209 rfl (jw_Mo_mul.jo (by decide)) lm_Mo_163 ji_Mo_mul js_Mo_mul hE_81.ob rfl rfl rfl (Nat.le_of_ble_eq_true rfl) (by decide) (by decide) (u_Mo_mul hE_81 (by decide) (by decide) (by decide) vr_81 r_82) (fun r M_83 hq => ?_)
      obtain ⟨rfl, E_83, hE_83, vr_83, ke_83, kp_83⟩ := hq
      obtain ⟨x_83, hx_83⟩ : ∃ z : Int, z = (x_81 * x_20) := ⟨_, rfl⟩
      rw [← hx_83] at vr_83
      refine T_eq (pc' := 212) (L' := [(4, .int (nI ((rtG x_8 x_20)))), (0, .ref 373), (1, .int (nI 16)), (2, .ref fr), (3, .int (nI at0))]) (st' := []) (M' := M_83) rfl rfl rfl rfl ?_
      refine T_aload_n (v := .ref 373) d_Mo_mapPart_212 rfl (Or.inr ⟨_, rfl⟩) ?_
      refine T_bipush (v := nI 29) d_Mo_mapPart_213 (by decide) ?_
      refine T_bipush (v := nI 27) d_Mo_mapPart_215 (by decide) ?_
      refine T_iconst (v := nI 5) d_Mo_mapPart_217 (by decide) ?_
      have r_84 := (ke_83 27 (by decide)).trans ((ke_81 27 (by decide)).trans (vr_79))
      have r_85 := (ke_83 5 (by decide)).trans ((ke_81 5 (by decide)).trans ((ke_79 5 (by decide)).trans ((ke_77 5 (by decide)).trans ((ke_75 5 (by decide)).trans ((ke_73 5 (by decide)).trans ((ke_70 5 (by decide)).trans ((ke_68 5 (by decide)).trans ((ke_67 5 (by decide)).trans ((ke_27 5 (by decide)).trans ((ke_24 5 (by decide)).trans ((ke_20 5 (by decide)).trans ((ke_18 5 (by decide)).trans ((ke_15 5 (by decide)).trans ((ke_13 5 (by decide)).trans ((ke_11 5 (by decide)).trans ((ke_8 5 (by decide)).trans ((ke_6 5 (by decide)).trans ((ke_4 5 (by decide)).trans ((ke_2 5 (by decide)).trans ((ke_1 5 (by decide)).trans (ck.c5)))))))))))))))))))))
      refine T_virtual (as := [.int (nI 29), .int (nI 27), .int (nI 5)]) (rest := []) (b := 373) d_Mo_mapPart_218 rfl (jw_Mo_mul.jo (by decide)) lm_Mo_163 ji_Mo_mul js_Mo_mul hE_83.ob rfl rfl rfl (Nat.le_of_ble_eq_true rfl) (by decide) (by decide) (u_Mo_mul hE_83 (by decide) (by decide) (by decide) r_84 r_85) (fun r M_86 hq => ?_)
      obtain ⟨rfl, E_86, hE_86, vr_86, ke_86, kp_86⟩ := hq
      obtain ⟨x_86, hx_86⟩ : ∃ z : Int, z = (x_79 * cG) := ⟨_, rfl⟩
      rw [← hx_86] at vr_86
      refine T_eq (pc' := 221) (L' := [(4, .int (nI ((rtG x_8 x_20)))), (0, .ref 373), (1, .int (nI 16)), (2, .ref fr), (3, .int (nI at0))]) (st' := []) (M' := M_86) rfl rfl rfl rfl ?_
      refine T_aload_n (v := .ref 373) d_Mo_mapPart_221 rfl (Or.inr ⟨_, rfl⟩) ?_
      refine T_bipush (v := nI 30) d_Mo_mapPart_222 (by decide) ?_
      refine T_bipush (v := nI 25) d_Mo_mapPart_224 (by decide) ?_
      refine T_bipush (v := nI 25) d_Mo_mapPart_226 (by decide) ?_
      have r_87 := (ke_86 25 (by decide)).trans ((ke_83 25 (by decide)).trans ((ke_81 25 (by decide)).trans (r_80)))
      refine T_virtual (as := [.int (nI 30), .int (nI 25), .int (nI 25)]) (rest := []) (b := 373) d_Mo_mapPart_228 rfl (jw_Mo_mul.jo (by decide)) lm_Mo_163 ji_Mo_mul js_Mo_mul hE_86.ob rfl rfl rfl (Nat.le_of_ble_eq_true rfl) (by decide) (by decide) (u_Mo_mul hE_86 (by decide) (by decide) (by decide) r_87 r_87) (fun r M_88 hq => ?_)
      obtain ⟨rfl, E_88, hE_88, vr_88, ke_88, kp_88⟩ := hq
      obtain ⟨x_88, hx_88⟩ : ∃ z : Int, z = (x_67 * x_67) := ⟨_, rfl⟩
      rw [← hx_88] at vr_88
      refine T_eq (pc' := 231) (L' := [(4, .int (nI ((rtG x_8 x_20)))), (0, .ref 373), (1, .int (nI 16)), (2, .ref fr), (3, .int (nI at0))]) (st' := []) (M' := M_88) rfl rfl rfl rfl ?_
      refine T_aload_n (v := .ref 373) d_Mo_mapPart_231 rfl (Or.inr ⟨_, rfl⟩) ?_
      refine T_bipush (v := nI 31) d_Mo_mapPart_232 (by decide) ?_
      refine T_iconst (v := nI 1) d_Mo_mapPart_234 (by decide) ?_
      refine T_bipush (v := nI 30) d_Mo_mapPart_235 (by decide) ?_
      have r_89 := (ke_88 1 (by decide)).trans ((ke_86 1 (by decide)).trans ((ke_83 1 (by decide)).trans ((ke_81 1 (by decide)).trans ((ke_79 1 (by decide)).trans ((ke_77 1 (by decide)).trans ((ke_75 1 (by decide)).trans ((ke_73 1 (by decide)).trans (r_72))))))))
      refine T_virtual (as := [.int (nI 31), .int (nI 1), .int (nI 30)]) (rest := []) (b := 373) d_Mo_mapPart_237 rfl (jw_Mo_sub.jo (by decide)) lm_Mo_152 ji_Mo_sub js_Mo_sub hE_88.ob rfl rfl rfl (Nat.le_of_ble_eq_true rfl) (by decide) (by decide) (u_Mo_sub hE_88 (by decide) (by decide) (by decide) r_89 vr_88) (fun r M_90 hq => ?_)
      obtain ⟨rfl, E_90, hE_90, vr_90, ke_90, kp_90⟩ := hq
      obtain ⟨x_90, hx_90⟩ : ∃ z : Int, z = (1 - x_88) := ⟨_, rfl⟩
      rw [← hx_90] at vr_90
      refine T_eq (pc' := 240) (L' := [(4, .int (nI ((rtG x_8 x_20)))), (0, .ref 373), (1, .int (nI 16)), (2, .ref fr), (3, .int (nI at0))]) (st' := []) (M' := M_90) rfl rfl rfl rfl ?_
      refine T_aload_n (v := .ref 373) d_Mo_mapPart_240 rfl (Or.inr ⟨_, rfl⟩) ?_
      refine T_bipush (v := nI 30) d_Mo_mapPart_241 (by decide) ?_
      refine T_iconst (v := nI 1) d_Mo_mapPart_243 (by decide) ?_
      refine T_bipush (v := nI 30) d_Mo_mapPart_244 (by decide) ?_
      have r_91 := (ke_90 1 (by decide)).trans (r_89)
      have r_92 := (ke_90 30 (by decide)).trans (vr_88)
      refine T_virtual (as := [.int (nI 30), .int (nI 1), .int (nI 30)]) (rest := []) (b := 373) d_Mo_mapPart_246 rfl (jw_Mo_add.jo (by decide)) lm_Mo_182 ji_Mo_add js_Mo_add hE_90.ob rfl rfl rfl (Nat.le_of_ble_eq_true rfl) (by decide) (by decide) (u_Mo_add hE_90 (by decide) (by decide) (by decide) r_91 r_92) (fun r M_93 hq => ?_)
      obtain ⟨rfl, E_93, hE_93, vr_93, ke_93, kp_93⟩ := hq
      obtain ⟨x_93, hx_93⟩ : ∃ z : Int, z = (1 + x_88) := ⟨_, rfl⟩
      rw [← hx_93] at vr_93
      refine T_eq (pc' := 249) (L' := [(4, .int (nI ((rtG x_8 x_20)))), (0, .ref 373), (1, .int (nI 16)), (2, .ref fr), (3, .int (nI at0))]) (st' := []) (M' := M_93) rfl rfl rfl rfl ?_
      refine T_aload_n (v := .ref 373) d_Mo_mapPart_249 rfl (Or.inr ⟨_, rfl⟩) ?_
      refine T_iload_n d_Mo_mapPart_250 rfl ?_
      refine T_bipush (v := nI 28) d_Mo_mapPart_251 (by decide) ?_
      refine T_bipush (v := nI 30) d_Mo_mapPart_253 (by decide) ?_
      have r_94 := (ke_93 28 (by decide)).trans ((ke_90 28 (by decide)).trans ((ke_88 28 (by decide)).trans ((ke_86 28 (by decide)).trans (vr_83))))
      refine T_virtual (as := [.int (nI 16), .int (nI 28), .int (nI 30)]) (rest := []) (b := 373) d_Mo_mapPart_255 rfl (jw_Mo_mul.jo (by decide)) lm_Mo_163 ji_Mo_mul js_Mo_mul hE_93.ob rfl rfl rfl (Nat.le_of_ble_eq_true rfl) (by decide) (by decide) (u_Mo_mul hE_93 (by decide) (by decide) (by decide) r_94 vr_93) (fun r M_95 hq => ?_)
      obtain ⟨rfl, E_95, hE_95, vr_95, ke_95, kp_95⟩ := hq
      obtain ⟨x_95, hx_95⟩ : ∃ z : Int, z = (x_83 * x_93) := ⟨_, rfl⟩
      rw [← hx_95] at vr_95
      refine T_eq (pc' := 258) (L' := [(4, .int (nI ((rtG x_8 x_20)))), (0, .ref 373), (1, .int (nI 16)), (2, .ref fr), (3, .int (nI at0))]) (st' := []) (M' := M_95) rfl rfl rfl rfl ?_
      refine T_aload_n (v := .ref 373) d_Mo_mapPart_258 rfl (Or.inr ⟨_, rfl⟩) ?_
      refine T_iload_n d_Mo_mapPart_259 rfl ?_
      refine T_iconst (v := nI 1) d_Mo_mapPart_260 (by decide) ?_
      refine N_iadd (a := 1) (b := 16) (c := 17) d_Mo_mapPart_261 rfl ?_
      refine T_bipush (v := nI 31) d_Mo_mapPart_262 (by decide) ?_
      refine T_bipush (v := nI 29) d_Mo_mapPart_264 (by decide) ?_
      have r_96 := (ke_95 31 (by decide)).trans ((ke_93 31 (by decide)).trans (vr_90))
      have r_97 := (ke_95 29 (by decide)).trans ((ke_93 29 (by decide)).trans ((ke_90 29 (by decide)).trans ((ke_88 29 (by decide)).trans (vr_86))))
      refine T_virtual (as := [.int (nI 17), .int (nI 31), .int (nI 29)]) (rest := []) (b := 373) d_Mo_mapPart_266 rfl (jw_Mo_mul.jo (by decide)) lm_Mo_163 ji_Mo_mul js_Mo_mul hE_95.ob rfl rfl rfl (Nat.le_of_ble_eq_true rfl) (by decide) (by decide) (u_Mo_mul hE_95 (by decide) (by decide) (by decide) r_96 r_97) (fun r M_98 hq => ?_)
      obtain ⟨rfl, E_98, hE_98, vr_98, ke_98, kp_98⟩ := hq
      obtain ⟨x_98, hx_98⟩ : ∃ z : Int, z = (x_90 * x_86) := ⟨_, rfl⟩
      rw [← hx_98] at vr_98
      refine T_eq (pc' := 269) (L' := [(4, .int (nI ((rtG x_8 x_20)))), (0, .ref 373), (1, .int (nI 16)), (2, .ref fr), (3, .int (nI at0))]) (st' := []) (M' := M_98) rfl rfl rfl rfl ?_
      refine T_aload_n (v := .ref 373) d_Mo_mapPart_269 rfl (Or.inr ⟨_, rfl⟩) ?_
      refine T_iload_n d_Mo_mapPart_270 rfl ?_
      refine T_iconst (v := nI 2) d_Mo_mapPart_271 (by decide) ?_
      refine N_iadd (a := 2) (b := 16) (c := 18) d_Mo_mapPart_272 rfl ?_
      refine T_bipush (v := nI 29) d_Mo_mapPart_273 (by decide) ?_
      refine T_bipush (v := nI 30) d_Mo_mapPart_275 (by decide) ?_
      have r_99 := (ke_98 29 (by decide)).trans (r_97)
      have r_100 := (ke_98 30 (by decide)).trans ((ke_95 30 (by decide)).trans (vr_93))
      refine T_virtual (as := [.int (nI 18), .int (nI 29), .int (nI 30)]) (rest := []) (b := 373) d_Mo_mapPart_277 rfl (jw_Mo_mul.jo (by decide)) lm_Mo_163 ji_Mo_mul js_Mo_mul hE_98.ob rfl rfl rfl (Nat.le_of_ble_eq_true rfl) (by decide) (by decide) (u_Mo_mul hE_98 (by decide) (by decide) (by decide) r_99 r_100) (fun r M_101 hq => ?_)
      obtain ⟨rfl, E_101, hE_101, vr_101, ke_101, kp_101⟩ := hq
      obtain ⟨x_101, hx_101⟩ : ∃ z : Int, z = (x_86 * x_93) := ⟨_, rfl⟩
      rw [← hx_101] at vr_101
      refine T_eq (pc' := 280) (L' := [(4, .int (nI ((rtG x_8 x_20)))), (0, .ref 373), (1, .int (nI 16)), (2, .ref fr), (3, .int (nI at0))]) (st' := []) (M' := M_101) rfl rfl rfl rfl ?_
      refine T_aload_n (v := .ref 373) d_Mo_mapPart_280 rfl (Or.inr ⟨_, rfl⟩) ?_
      refine T_iload_n d_Mo_mapPart_281 rfl ?_
      refine T_iconst (v := nI 3) d_Mo_mapPart_282 (by decide) ?_
      refine N_iadd (a := 3) (b := 16) (c := 19) d_Mo_mapPart_283 rfl ?_
      refine T_bipush (v := nI 28) d_Mo_mapPart_284 (by decide) ?_
      refine T_bipush (v := nI 31) d_Mo_mapPart_286 (by decide) ?_
      have r_102 := (ke_101 28 (by decide)).trans ((ke_98 28 (by decide)).trans ((ke_95 28 (by decide)).trans (r_94)))
      have r_103 := (ke_101 31 (by decide)).trans ((ke_98 31 (by decide)).trans (r_96))
      refine T_virtual (as := [.int (nI 19), .int (nI 28), .int (nI 31)]) (rest := []) (b := 373) d_Mo_mapPart_288 rfl (jw_Mo_mul.jo (by decide)) lm_Mo_163 ji_Mo_mul js_Mo_mul hE_101.ob rfl rfl rfl (Nat.le_of_ble_eq_true rfl) (by decide) (by decide) (u_Mo_mul hE_101 (by decide) (by decide) (by decide) r_102 r_103) (fun r M_104 hq => ?_)
      obtain ⟨rfl, E_104, hE_104, vr_104, ke_104, kp_104⟩ := hq
      obtain ⟨x_104, hx_104⟩ : ∃ z : Int, z = (x_83 * x_90) := ⟨_, rfl⟩
      rw [← hx_104] at vr_104
      refine T_eq (pc' := 291) (L' := [(4, .int (nI ((rtG x_8 x_20)))), (0, .ref 373), (1, .int (nI 16)), (2, .ref fr), (3, .int (nI at0))]) (st' := []) (M' := M_104) rfl rfl rfl rfl ?_
      have t0 : ph x_1 = ph (num32 (fun k => (b k : Int)) % n255) := by rw [hx_1]
      generalize ph (num32 (fun k => (b k : Int)) % n255) = t at *
      have r1 : ph x_4 = t * t * fI := by rw [hx_4, ph_mul, hx_2, ph_mul, t0, ph_cI]
      generalize hr : t * t * fI = r at r1
      have uu : ph x_8 = gU_ r := by rw [hx_8, ph_mul, hx_6, ph_add, r1, ph_1, ph_cO]; rfl
      have vv : ph x_20 = gV_ r := by rw [hx_20, ph_mul, hx_15, ph_zs, hx_13, ph_add, hx_11, ph_mul, hx_18, ph_add, r1, ph_1, ph_cD]; rfl
      have rr : ph x_24 = rR (gU_ r) (gV_ r) := by rw [hx_24, ph_rt, uu, vv]
      have gi := rtG_1 x_8 x_20
      rw [uu, vv] at gi
      have gd : ¬ rG (gU_ r) (gV_ r) := fun c => absurd (gi.mpr c) (by omega)
      have st : ph x_67 = rR (gU_ r) (gV_ r) * t := by rw [hx_67, ph_mul, rr, t0]
      have ss : ph x_67 = gS_ t r := by
        unfold gS_ ab; rw [if_neg gd]
        rw [if_pos ((od_of st).mpr hb_68), st]; exact fp_nn _
      have cc : ph x_70 = gC_ t r := by rw [hx_70, r1]; unfold gC_; rw [if_neg gd]
      have nn : ph x_79 = gN_ t r := by
        rw [hx_79, ph_sub, vv, hx_77, ph_mul, hx_75, ph_mul, hx_73, ph_sub, cc, r1, ph_1, ph_cL]; unfold gN_; grind -lia -linarith
      have w0 : ph x_83 = (gS_ t r + gS_ t r) * gV_ r := by rw [hx_83, ph_mul, hx_81, ph_add, ss, vv]
      have w1 : ph x_86 = gN_ t r * fG := by rw [hx_86, ph_mul, nn, ph_cG]
      have w3 : ph x_93 = 1 + gS_ t r * gS_ t r := by rw [hx_93, ph_add, hx_88, ph_mul, ss, ph_1]
      have w2 : ph x_90 = 1 - gS_ t r * gS_ t r := by rw [hx_90, ph_sub, hx_88, ph_mul, ss, ph_1]
      have q0 : ph x_95 = gX_ t := by unfold gX_; rw [hr, hx_95, ph_mul, w0, w3]
      have q1 : ph x_98 = gY_ t := by unfold gY_; rw [hr, hx_98, ph_mul, w2, w1]
      have q2 : ph x_101 = gZ_ t := by unfold gZ_; rw [hr, hx_101, ph_mul, w1, w3]
      have q3 : ph x_104 = gT_ t := by unfold gT_; rw [hr, hx_104, ph_mul, w0, w2]
      have r_105 := (ke_104 16 (by decide)).trans ((ke_101 16 (by decide)).trans ((ke_98 16 (by decide)).trans (vr_95)))
      have r_106 := (ke_104 17 (by decide)).trans ((ke_101 17 (by decide)).trans (vr_98))
      have r_107 := (ke_104 18 (by decide)).trans (vr_101)
      exact T_vret d_Mo_mapPart_291 rfl (by decide) (by decide) ⟨rfl, _, _, _, _, ⟨q0, q1, q2, q3⟩, E_104, hE_104, ⟨r_105, r_106, r_107, vr_104⟩, (KE.tr (KE.tr (KE.tr (KE.tr (KE.tr (KE.tr (KE.tr (KE.tr (KE.tr (KE.tr (KE.tr (KE.tr (KE.tr (KE.tr (KE.tr (KE.tr (KE.tr (KE.tr (KE.tr (KE.tr (KE.tr (KE.tr (KE.tr (KE.tr (KE.tr (KE.tr (KE.tr (KE.tr (KE.tr (KE.rf : KE [20, 21, 22, 23, 24, 25, 26, 27, 28, 29, 30, 31, 50, 51, 52, 53, 54, 55, 56, 61, 62, 63, 16, 17, 18, 19] E E) (KE.mono ke_1 (by decide))) (KE.mono ke_2 (by decide))) (KE.mono ke_4 (by decide))) (KE.mono ke_6 (by decide))) (KE.mono ke_8 (by decide))) (KE.mono ke_11 (by decide))) (KE.mono ke_13 (by decide))) (KE.mono ke_15 (by decide))) (KE.mono ke_18 (by decide))) (KE.mono ke_20 (by decide))) (KE.mono ke_24 (by decide))) (KE.mono ke_27 (by decide))) (KE.mono ke_67 (by decide))) (KE.mono ke_68 (by decide))) (KE.mono ke_70 (by decide))) (KE.mono ke_73 (by decide))) (KE.mono ke_75 (by decide))) (KE.mono ke_77 (by decide))) (KE.mono ke_79 (by decide))) (KE.mono ke_81 (by decide))) (KE.mono ke_83 (by decide))) (KE.mono ke_86 (by decide))) (KE.mono ke_88 (by decide))) (KE.mono ke_90 (by decide))) (KE.mono ke_93 (by decide))) (KE.mono ke_95 (by decide))) (KE.mono ke_98 (by decide))) (KE.mono ke_101 (by decide))) (KE.mono ke_104 (by decide))), (Kp.tr (Kp.tr (Kp.tr (Kp.tr (Kp.tr (Kp.tr (Kp.tr (Kp.tr (Kp.tr (Kp.tr (Kp.tr (Kp.tr (Kp.tr (Kp.tr (Kp.tr (Kp.tr (Kp.tr (Kp.tr (Kp.tr (Kp.tr (Kp.tr (Kp.tr (Kp.tr (Kp.tr (Kp.tr (Kp.tr (Kp.tr (Kp.tr (Kp.tr (Kp.rf : Kp [390, 391, 392, 393, 394] M M) (Kp.mono kp_1 (by decide))) (Kp.mono kp_2 (by decide))) (Kp.mono kp_4 (by decide))) (Kp.mono kp_6 (by decide))) (Kp.mono kp_8 (by decide))) (Kp.mono kp_11 (by decide))) (Kp.mono kp_13 (by decide))) (Kp.mono kp_15 (by decide))) (Kp.mono kp_18 (by decide))) (Kp.mono kp_20 (by decide))) (Kp.mono kp_24 (by decide))) (Kp.mono kp_27 (by decide))) (Kp.mono kp_67 (by decide))) (Kp.mono kp_68 (by decide))) (Kp.mono kp_70 (by decide))) (Kp.mono kp_73 (by decide))) (Kp.mono kp_75 (by decide))) (Kp.mono kp_77 (by decide))) (Kp.mono kp_79 (by decide))) (Kp.mono kp_81 (by decide))) (Kp.mono kp_83 (by decide))) (Kp.mono kp_86 (by decide))) (Kp.mono kp_88 (by decide))) (Kp.mono kp_90 (by decide))) (Kp.mono kp_93 (by decide))) (Kp.mono kp_95 (by decide))) (Kp.mono kp_98 (by decide))) (Kp.mono kp_101 (by decide))) (Kp.mono kp_104 (by decide)))⟩
    · rw [if_neg hb_68]
      refine T_eq (pc' := 133) (L' := [(4, .int (nI ((rtG x_8 x_20)))), (0, .ref 373), (1, .int (nI 16)), (2, .ref fr), (3, .int (nI at0))]) (st' := [.int (nI 0)]) (M' := M_68) rfl rfl rfl rfl ?_
      refine N_if_ne_f (b := 0) d_Mo_mapPart_133 (tgt := 145) rfl (by omega) (by omega) ?_
      refine T_aload_n (v := .ref 373) d_Mo_mapPart_136 rfl (Or.inr ⟨_, rfl⟩) ?_
      refine T_bipush (v := nI 25) d_Mo_mapPart_137 (by decide) ?_
      refine T_iconst (v := nI 0) d_Mo_mapPart_139 (by decide) ?_
      refine T_bipush (v := nI 25) d_Mo_mapPart_140 (by decide) ?_
      have r_108 := (ke_68 0 (by decide)).trans ((ke_67 0 (by decide)).trans ((ke_27 0 (by decide)).trans (r_25)))
      have r_109 := (ke_68 25 (by decide)).trans (vr_67)
      refine T_virtual (as := [.int (nI 25), .int (nI 0), .int (nI 25)]) (rest := []) (b := 373) d_Mo_mapPart_142 rfl (jw_Mo_sub.jo (by decide)) lm_Mo_152 ji_Mo_sub js_Mo_sub hE_68.ob rfl rfl rfl (Nat.le_of_ble_eq_true rfl) (by decide) (by decide) (u_Mo_sub hE_68 (by decide) (by decide) (by decide) r_108 r_109) (fun r M_110 hq => ?_)
      obtain ⟨rfl, E_110, hE_110, vr_110, ke_110, kp_110⟩ := hq
      obtain ⟨x_110, hx_110⟩ : ∃ z : Int, z = (0 - x_67) := ⟨_, rfl⟩
      rw [← hx_110] at vr_110
      refine T_eq (pc' := 145) (L' := [(4, .int (nI ((rtG x_8 x_20)))), (0, .ref 373), (1, .int (nI 16)), (2, .ref fr), (3, .int (nI at0))]) (st' := []) (M' := M_110) rfl rfl rfl rfl ?_
      refine T_aload_n (v := .ref 373) d_Mo_mapPart_145 rfl (Or.inr ⟨_, rfl⟩) ?_
      refine T_bipush (v := nI 26) d_Mo_mapPart_146 (by decide) ?_
      refine T_bipush (v := nI 21) d_Mo_mapPart_148 (by decide) ?_
      have r_111 := (ke_110 21 (by decide)).trans ((ke_68 21 (by decide)).trans ((ke_67 21 (by decide)).trans ((ke_27 21 (by decide)).trans ((ke_24 21 (by decide)).trans ((ke_20 21 (by decide)).trans ((ke_18 21 (by decide)).trans (r_16)))))))
      refine T_virtual (as := [.int (nI 26), .int (nI 21)]) (rest := []) (b := 373) d_Mo_mapPart_150 rfl (jw_Mo_set.jo (by decide)) lm_Mo_160 ji_Mo_set js_Mo_set hE_110.ob rfl rfl rfl (Nat.le_of_ble_eq_true rfl) (by decide) (by decide) (u_Mo_set hE_110 (by decide) (by decide) r_111) (fun r M_112 hq => ?_)
      obtain ⟨rfl, E_112, hE_112, vr_112, ke_112, kp_112⟩ := hq
      obtain ⟨x_112, hx_112⟩ : ∃ z : Int, z = x_4 := ⟨_, rfl⟩
      rw [← hx_112] at vr_112
      refine T_eq (pc' := 153) (L' := [(4, .int (nI ((rtG x_8 x_20)))), (0, .ref 373), (1, .int (nI 16)), (2, .ref fr), (3, .int (nI at0))]) (st' := []) (M' := M_112) rfl rfl rfl rfl ?_
      refine T_aload_n (v := .ref 373) d_Mo_mapPart_153 rfl (Or.inr ⟨_, rfl⟩) ?_
      refine T_bipush (v := nI 27) d_Mo_mapPart_154 (by decide) ?_
      refine T_bipush (v := nI 21) d_Mo_mapPart_156 (by decide) ?_
      refine T_iconst (v := nI 1) d_Mo_mapPart_158 (by decide) ?_
      have r_113 := (ke_112 21 (by decide)).trans (r_111)
      have r_114 := (ke_112 1 (by decide)).trans ((ke_110 1 (by decide)).trans ((ke_68 1 (by decide)).trans ((ke_67 1 (by decide)).trans ((ke_27 1 (by decide)).trans (r_26)))))
      refine T_virtual (as := [.int (nI 27), .int (nI 21), .int (nI 1)]) (rest := []) (b := 373) d_Mo_mapPart_159 rfl (jw_Mo_sub.jo (by decide)) lm_Mo_152 ji_Mo_sub js_Mo_sub hE_112.ob rfl rfl rfl (Nat.le_of_ble_eq_true rfl) (by decide) (by decide) (u_Mo_sub hE_112 (by decide) (by decide) (by decide) r_113 r_114) (fun r M_115 hq => ?_)
      obtain ⟨rfl, E_115, hE_115, vr_115, ke_115, kp_115⟩ := hq
      obtain ⟨x_115, hx_115⟩ : ∃ z : Int, z = (x_4 - 1) := ⟨_, rfl⟩
      rw [← hx_115] at vr_115
      refine T_eq (pc' := 162) (L' := [(4, .int (nI ((rtG x_8 x_20)))), (0, .ref 373), (1, .int (nI 16)), (2, .ref fr), (3, .int (nI at0))]) (st' := []) (M' := M_115) rfl rfl rfl rfl ?_
      refine T_aload_n (v := .ref 373) d_Mo_mapPart_162 rfl (Or.inr ⟨_, rfl⟩) ?_
      refine T_bipush (v := nI 27) d_Mo_mapPart_163 (by decide) ?_
      refine T_bipush (v := nI 27) d_Mo_mapPart_165 (by decide) ?_
      refine T_bipush (v := nI 26) d_Mo_mapPart_167 (by decide) ?_
      have r_116 := (ke_115 26 (by decide)).trans (vr_112)
      refine T_virtual (as := [.int (nI 27), .int (nI 27), .int (nI 26)]) (rest := []) (b := 373) d_Mo_mapPart_169 rfl (jw_Mo_mul.jo (by decide)) lm_Mo_163 ji_Mo_mul js_Mo_mul hE_115.ob rfl rfl rfl (Nat.le_of_ble_eq_true rfl) (by decide) (by decide) (u_Mo_mul hE_115 (by decide) (by decide) (by decide) vr_115 r_116) (fun r M_117 hq => ?_)
      obtain ⟨rfl, E_117, hE_117, vr_117, ke_117, kp_117⟩ := hq
      obtain ⟨x_117, hx_117⟩ : ∃ z : Int, z = (x_115 * x_112) := ⟨_, rfl⟩
      rw [← hx_117] at vr_117
      refine T_eq (pc' := 172) (L' := [(4, .int (nI ((rtG x_8 x_20)))), (0, .ref 373), (1, .int (nI 16)), (2, .ref fr), (3, .int (nI at0))]) (st' := []) (M' := M_117) rfl rfl rfl rfl ?_
      refine T_aload_n (v := .ref 373) d_Mo_mapPart_172 rfl (Or.inr ⟨_, rfl⟩) ?_
      refine T_bipush (v := nI 27) d_Mo_mapPart_173 (by decide) ?_
      refine T_bipush (v := nI 27) d_Mo_mapPart_175 (by decide) ?_
      refine T_bipush (v := nI 7) d_Mo_mapPart_177 (by decide) ?_
      have r_118 := (ke_117 7 (by decide)).trans ((ke_115 7 (by decide)).trans ((ke_112 7 (by decide)).trans ((ke_110 7 (by decide)).trans ((ke_68 7 (by decide)).trans ((ke_67 7 (by decide)).trans ((ke_27 7 (by decide)).trans ((ke_24 7 (by decide)).trans ((ke_20 7 (by decide)).trans ((ke_18 7 (by decide)).trans ((ke_15 7 (by decide)).trans ((ke_13 7 (by decide)).trans ((ke_11 7 (by decide)).trans ((ke_8 7 (by decide)).trans ((ke_6 7 (by decide)).trans ((ke_4 7 (by decide)).trans ((ke_2 7 (by decide)).trans ((ke_1 7 (by decide)).trans (ck.c7))))))))))))))))))
      refine T_virtual (as := [.int (nI 27), .int (nI 27), .int (nI 7)]) (rest := []) (b := 373) d_Mo_mapPart_179 rfl (jw_Mo_mul.jo (by decide)) lm_Mo_163 ji_Mo_mul js_Mo_mul hE_117.ob rfl rfl rfl (Nat.le_of_ble_eq_true rfl) (by decide) (by decide) (u_Mo_mul hE_117 (by decide) (by decide) (by decide) vr_117 r_118) (fun r M_119 hq => ?_)
      obtain ⟨rfl, E_119, hE_119, vr_119, ke_119, kp_119⟩ := hq
      obtain ⟨x_119, hx_119⟩ : ∃ z : Int, z = (x_117 * cL) := ⟨_, rfl⟩
      rw [← hx_119] at vr_119
      refine T_eq (pc' := 182) (L' := [(4, .int (nI ((rtG x_8 x_20)))), (0, .ref 373), (1, .int (nI 16)), (2, .ref fr), (3, .int (nI at0))]) (st' := []) (M' := M_119) rfl rfl rfl rfl ?_
      refine T_aload_n (v := .ref 373) d_Mo_mapPart_182 rfl (Or.inr ⟨_, rfl⟩) ?_
      refine T_bipush (v := nI 27) d_Mo_mapPart_183 (by decide) ?_
      refine T_bipush (v := nI 27) d_Mo_mapPart_185 (by decide) ?_
      refine T_bipush (v := nI 23) d_Mo_mapPart_187 (by decide) ?_
      have r_120 := (ke_119 23 (by decide)).trans ((ke_117 23 (by decide)).trans ((ke_115 23 (by decide)).trans ((ke_112 23 (by decide)).trans ((ke_110 23 (by decide)).trans ((ke_68 23 (by decide)).trans ((ke_67 23 (by decide)).trans ((ke_27 23 (by decide)).trans ((ke_24 23 (by decide)).trans (vr_20)))))))))
      refine T_virtual (as := [.int (nI 27), .int (nI 27), .int (nI 23)]) (rest := []) (b := 373) d_Mo_mapPart_189 rfl (jw_Mo_sub.jo (by decide)) lm_Mo_152 ji_Mo_sub js_Mo_sub hE_119.ob rfl rfl rfl (Nat.le_of_ble_eq_true rfl) (by decide) (by decide) (u_Mo_sub hE_119 (by decide) (by decide) (by decide) vr_119 r_120) (fun r M_121 hq => ?_)
      obtain ⟨rfl, E_121, hE_121, vr_121, ke_121, kp_121⟩ := hq
      obtain ⟨x_121, hx_121⟩ : ∃ z : Int, z = (x_119 - x_20) := ⟨_, rfl⟩
      rw [← hx_121] at vr_121
      refine T_eq (pc' := 192) (L' := [(4, .int (nI ((rtG x_8 x_20)))), (0, .ref 373), (1, .int (nI 16)), (2, .ref fr), (3, .int (nI at0))]) (st' := []) (M' := M_121) rfl rfl rfl rfl ?_
      refine T_aload_n (v := .ref 373) d_Mo_mapPart_192 rfl (Or.inr ⟨_, rfl⟩) ?_
      refine T_bipush (v := nI 28) d_Mo_mapPart_193 (by decide) ?_
      refine T_bipush (v := nI 25) d_Mo_mapPart_195 (by decide) ?_
      refine T_bipush (v := nI 25) d_Mo_mapPart_197 (by decide) ?_
      have r_122 := (ke_121 25 (by decide)).trans ((ke_119 25 (by decide)).trans ((ke_117 25 (by decide)).trans ((ke_115 25 (by decide)).trans ((ke_112 25 (by decide)).trans (vr_110)))))
      refine T_virtual (as := [.int (nI 28), .int (nI 25), .int (nI 25)]) (rest := []) (b := 373) d_Mo_mapPart_199 rfl (jw_Mo_add.jo (by decide)) lm_Mo_182 ji_Mo_add js_Mo_add hE_121.ob rfl rfl rfl (Nat.le_of_ble_eq_true rfl) (by decide) (by decide) (u_Mo_add hE_121 (by decide) (by decide) (by decide) r_122 r_122) (fun r M_123 hq => ?_)
      obtain ⟨rfl, E_123, hE_123, vr_123, ke_123, kp_123⟩ := hq
      obtain ⟨x_123, hx_123⟩ : ∃ z : Int, z = (x_110 + x_110) := ⟨_, rfl⟩
      rw [← hx_123] at vr_123
      refine T_eq (pc' := 202) (L' := [(4, .int (nI ((rtG x_8 x_20)))), (0, .ref 373), (1, .int (nI 16)), (2, .ref fr), (3, .int (nI at0))]) (st' := []) (M' := M_123) rfl rfl rfl rfl ?_
      refine T_aload_n (v := .ref 373) d_Mo_mapPart_202 rfl (Or.inr ⟨_, rfl⟩) ?_
      refine T_bipush (v := nI 28) d_Mo_mapPart_203 (by decide) ?_
      refine T_bipush (v := nI 28) d_Mo_mapPart_205 (by decide) ?_
      refine T_bipush (v := nI 23) d_Mo_mapPart_207 (by decide) ?_
      have r_124 := (ke_123 23 (by decide)).trans ((ke_121 23 (by decide)).trans (r_120))
      refine T_virtual (as := [.int (nI 28), .int (nI 28), .int (nI 23)]) (rest := []) (b := 373) d_Mo_mapPart_209 rfl (jw_Mo_mul.jo (by decide)) lm_Mo_163 ji_Mo_mul js_Mo_mul hE_123.ob rfl rfl rfl (Nat.le_of_ble_eq_true rfl) (by decide) (by decide) (u_Mo_mul hE_123 (by decide) (by decide) (by decide) vr_123 r_124) (fun r M_125 hq => ?_)
      obtain ⟨rfl, E_125, hE_125, vr_125, ke_125, kp_125⟩ := hq
      obtain ⟨x_125, hx_125⟩ : ∃ z : Int, z = (x_123 * x_20) := ⟨_, rfl⟩
      rw [← hx_125] at vr_125
      refine T_eq (pc' := 212) (L' := [(4, .int (nI ((rtG x_8 x_20)))), (0, .ref 373), (1, .int (nI 16)), (2, .ref fr), (3, .int (nI at0))]) (st' := []) (M' := M_125) rfl rfl rfl rfl ?_
      refine T_aload_n (v := .ref 373) d_Mo_mapPart_212 rfl (Or.inr ⟨_, rfl⟩) ?_
      refine T_bipush (v := nI 29) d_Mo_mapPart_213 (by decide) ?_
      refine T_bipush (v := nI 27) d_Mo_mapPart_215 (by decide) ?_
      refine T_iconst (v := nI 5) d_Mo_mapPart_217 (by decide) ?_
      have r_126 := (ke_125 27 (by decide)).trans ((ke_123 27 (by decide)).trans (vr_121))
      have r_127 := (ke_125 5 (by decide)).trans ((ke_123 5 (by decide)).trans ((ke_121 5 (by decide)).trans ((ke_119 5 (by decide)).trans ((ke_117 5 (by decide)).trans ((ke_115 5 (by decide)).trans ((ke_112 5 (by decide)).trans ((ke_110 5 (by decide)).trans ((ke_68 5 (by decide)).trans ((ke_67 5 (by decide)).trans ((ke_27 5 (by decide)).trans ((ke_24 5 (by decide)).trans ((ke_20 5 (by decide)).trans ((ke_18 5 (by decide)).trans ((ke_15 5 (by decide)).trans ((ke_13 5 (by decide)).trans ((ke_11 5 (by decide)).trans ((ke_8 5 (by decide)).trans ((ke_6 5 (by decide)).trans ((ke_4 5 (by decide)).trans ((ke_2 5 (by decide)).trans ((ke_1 5 (by decide)).trans (ck.c5))))))))))))))))))))))
      refine T_virtual (as := [.int (nI 29), .int (nI 27), .int (nI 5)]) (rest := []) (b := 373) d_Mo_mapPart_218 rfl (jw_Mo_mul.jo (by decide)) lm_Mo_163 ji_Mo_mul js_Mo_mul hE_125.ob rfl rfl rfl (Nat.le_of_ble_eq_true rfl) (by decide) (by decide) (u_Mo_mul hE_125 (by decide) (by decide) (by decide) r_126 r_127) (fun r M_128 hq => ?_)
      obtain ⟨rfl, E_128, hE_128, vr_128, ke_128, kp_128⟩ := hq
      obtain ⟨x_128, hx_128⟩ : ∃ z : Int, z = (x_121 * cG) := ⟨_, rfl⟩
      rw [← hx_128] at vr_128
      refine T_eq (pc' := 221) (L' := [(4, .int (nI ((rtG x_8 x_20)))), (0, .ref 373), (1, .int (nI 16)), (2, .ref fr), (3, .int (nI at0))]) (st' := []) (M' := M_128) rfl rfl rfl rfl ?_
      refine T_aload_n (v := .ref 373) d_Mo_mapPart_221 rfl (Or.inr ⟨_, rfl⟩) ?_
      refine T_bipush (v := nI 30) d_Mo_mapPart_222 (by decide) ?_
      refine T_bipush (v := nI 25) d_Mo_mapPart_224 (by decide) ?_
      refine T_bipush (v := nI 25) d_Mo_mapPart_226 (by decide) ?_
      have r_129 := (ke_128 25 (by decide)).trans ((ke_125 25 (by decide)).trans ((ke_123 25 (by decide)).trans (r_122)))
      refine T_virtual (as := [.int (nI 30), .int (nI 25), .int (nI 25)]) (rest := []) (b := 373) d_Mo_mapPart_228 rfl (jw_Mo_mul.jo (by decide)) lm_Mo_163 ji_Mo_mul js_Mo_mul hE_128.ob rfl rfl rfl (Nat.le_of_ble_eq_true rfl) (by decide) (by decide) (u_Mo_mul hE_128 (by decide) (by decide) (by decide) r_129 r_129) (fun r M_130 hq => ?_)
      obtain ⟨rfl, E_130, hE_130, vr_130, ke_130, kp_130⟩ := hq
      obtain ⟨x_130, hx_130⟩ : ∃ z : Int, z = (x_110 * x_110) := ⟨_, rfl⟩
      rw [← hx_130] at vr_130
      refine T_eq (pc' := 231) (L' := [(4, .int (nI ((rtG x_8 x_20)))), (0, .ref 373), (1, .int (nI 16)), (2, .ref fr), (3, .int (nI at0))]) (st' := []) (M' := M_130) rfl rfl rfl rfl ?_
      refine T_aload_n (v := .ref 373) d_Mo_mapPart_231 rfl (Or.inr ⟨_, rfl⟩) ?_
      refine T_bipush (v := nI 31) d_Mo_mapPart_232 (by decide) ?_
      refine T_iconst (v := nI 1) d_Mo_mapPart_234 (by decide) ?_
      refine T_bipush (v := nI 30) d_Mo_mapPart_235 (by decide) ?_
      have r_131 := (ke_130 1 (by decide)).trans ((ke_128 1 (by decide)).trans ((ke_125 1 (by decide)).trans ((ke_123 1 (by decide)).trans ((ke_121 1 (by decide)).trans ((ke_119 1 (by decide)).trans ((ke_117 1 (by decide)).trans ((ke_115 1 (by decide)).trans (r_114))))))))
      refine T_virtual (as := [.int (nI 31), .int (nI 1), .int (nI 30)]) (rest := []) (b := 373) d_Mo_mapPart_237 rfl (jw_Mo_sub.jo (by decide)) lm_Mo_152 ji_Mo_sub js_Mo_sub hE_130.ob rfl rfl rfl (Nat.le_of_ble_eq_true rfl) (by decide) (by decide) (u_Mo_sub hE_130 (by decide) (by decide) (by decide) r_131 vr_130) (fun r M_132 hq => ?_)
      obtain ⟨rfl, E_132, hE_132, vr_132, ke_132, kp_132⟩ := hq
      obtain ⟨x_132, hx_132⟩ : ∃ z : Int, z = (1 - x_130) := ⟨_, rfl⟩
      rw [← hx_132] at vr_132
      refine T_eq (pc' := 240) (L' := [(4, .int (nI ((rtG x_8 x_20)))), (0, .ref 373), (1, .int (nI 16)), (2, .ref fr), (3, .int (nI at0))]) (st' := []) (M' := M_132) rfl rfl rfl rfl ?_
      refine T_aload_n (v := .ref 373) d_Mo_mapPart_240 rfl (Or.inr ⟨_, rfl⟩) ?_
      refine T_bipush (v := nI 30) d_Mo_mapPart_241 (by decide) ?_
      refine T_iconst (v := nI 1) d_Mo_mapPart_243 (by decide) ?_
      refine T_bipush (v := nI 30) d_Mo_mapPart_244 (by decide) ?_
      have r_133 := (ke_132 1 (by decide)).trans (r_131)
      have r_134 := (ke_132 30 (by decide)).trans (vr_130)
      refine T_virtual (as := [.int (nI 30), .int (nI 1), .int (nI 30)]) (rest := []) (b := 373) d_Mo_mapPart_246 rfl (jw_Mo_add.jo (by decide)) lm_Mo_182 ji_Mo_add js_Mo_add hE_132.ob rfl rfl rfl (Nat.le_of_ble_eq_true rfl) (by decide) (by decide) (u_Mo_add hE_132 (by decide) (by decide) (by decide) r_133 r_134) (fun r M_135 hq => ?_)
      obtain ⟨rfl, E_135, hE_135, vr_135, ke_135, kp_135⟩ := hq
      obtain ⟨x_135, hx_135⟩ : ∃ z : Int, z = (1 + x_130) := ⟨_, rfl⟩
      rw [← hx_135] at vr_135
      refine T_eq (pc' := 249) (L' := [(4, .int (nI ((rtG x_8 x_20)))), (0, .ref 373), (1, .int (nI 16)), (2, .ref fr), (3, .int (nI at0))]) (st' := []) (M' := M_135) rfl rfl rfl rfl ?_
      refine T_aload_n (v := .ref 373) d_Mo_mapPart_249 rfl (Or.inr ⟨_, rfl⟩) ?_
      refine T_iload_n d_Mo_mapPart_250 rfl ?_
      refine T_bipush (v := nI 28) d_Mo_mapPart_251 (by decide) ?_
      refine T_bipush (v := nI 30) d_Mo_mapPart_253 (by decide) ?_
      have r_136 := (ke_135 28 (by decide)).trans ((ke_132 28 (by decide)).trans ((ke_130 28 (by decide)).trans ((ke_128 28 (by decide)).trans (vr_125))))
      refine T_virtual (as := [.int (nI 16), .int (nI 28), .int (nI 30)]) (rest := []) (b := 373) d_Mo_mapPart_255 rfl (jw_Mo_mul.jo (by decide)) lm_Mo_163 ji_Mo_mul js_Mo_mul hE_135.ob rfl rfl rfl (Nat.le_of_ble_eq_true rfl) (by decide) (by decide) (u_Mo_mul hE_135 (by decide) (by decide) (by decide) r_136 vr_135) (fun r M_137 hq => ?_)
      obtain ⟨rfl, E_137, hE_137, vr_137, ke_137, kp_137⟩ := hq
      obtain ⟨x_137, hx_137⟩ : ∃ z : Int, z = (x_125 * x_135) := ⟨_, rfl⟩
      rw [← hx_137] at vr_137
      refine T_eq (pc' := 258) (L' := [(4, .int (nI ((rtG x_8 x_20)))), (0, .ref 373), (1, .int (nI 16)), (2, .ref fr), (3, .int (nI at0))]) (st' := []) (M' := M_137) rfl rfl rfl rfl ?_
      refine T_aload_n (v := .ref 373) d_Mo_mapPart_258 rfl (Or.inr ⟨_, rfl⟩) ?_
      refine T_iload_n d_Mo_mapPart_259 rfl ?_
      refine T_iconst (v := nI 1) d_Mo_mapPart_260 (by decide) ?_
      refine N_iadd (a := 1) (b := 16) (c := 17) d_Mo_mapPart_261 rfl ?_
      refine T_bipush (v := nI 31) d_Mo_mapPart_262 (by decide) ?_
      refine T_bipush (v := nI 29) d_Mo_mapPart_264 (by decide) ?_
      have r_138 := (ke_137 31 (by decide)).trans ((ke_135 31 (by decide)).trans (vr_132))
      have r_139 := (ke_137 29 (by decide)).trans ((ke_135 29 (by decide)).trans ((ke_132 29 (by decide)).trans ((ke_130 29 (by decide)).trans (vr_128))))
      refine T_virtual (as := [.int (nI 17), .int (nI 31), .int (nI 29)]) (rest := []) (b := 373) d_Mo_mapPart_266 rfl (jw_Mo_mul.jo (by decide)) lm_Mo_163 ji_Mo_mul js_Mo_mul hE_137.ob rfl rfl rfl (Nat.le_of_ble_eq_true rfl) (by decide) (by decide) (u_Mo_mul hE_137 (by decide) (by decide) (by decide) r_138 r_139) (fun r M_140 hq => ?_)
      obtain ⟨rfl, E_140, hE_140, vr_140, ke_140, kp_140⟩ := hq
      obtain ⟨x_140, hx_140⟩ : ∃ z : Int, z = (x_132 * x_128) := ⟨_, rfl⟩
      rw [← hx_140] at vr_140
      refine T_eq (pc' := 269) (L' := [(4, .int (nI ((rtG x_8 x_20)))), (0, .ref 373), (1, .int (nI 16)), (2, .ref fr), (3, .int (nI at0))]) (st' := []) (M' := M_140) rfl rfl rfl rfl ?_
      refine T_aload_n (v := .ref 373) d_Mo_mapPart_269 rfl (Or.inr ⟨_, rfl⟩) ?_
      refine T_iload_n d_Mo_mapPart_270 rfl ?_
      refine T_iconst (v := nI 2) d_Mo_mapPart_271 (by decide) ?_
      refine N_iadd (a := 2) (b := 16) (c := 18) d_Mo_mapPart_272 rfl ?_
      refine T_bipush (v := nI 29) d_Mo_mapPart_273 (by decide) ?_
      refine T_bipush (v := nI 30) d_Mo_mapPart_275 (by decide) ?_
      have r_141 := (ke_140 29 (by decide)).trans (r_139)
      have r_142 := (ke_140 30 (by decide)).trans ((ke_137 30 (by decide)).trans (vr_135))
      refine T_virtual (as := [.int (nI 18), .int (nI 29), .int (nI 30)]) (rest := []) (b := 373) d_Mo_mapPart_277 rfl (jw_Mo_mul.jo (by decide)) lm_Mo_163 ji_Mo_mul js_Mo_mul hE_140.ob rfl rfl rfl (Nat.le_of_ble_eq_true rfl) (by decide) (by decide) (u_Mo_mul hE_140 (by decide) (by decide) (by decide) r_141 r_142) (fun r M_143 hq => ?_)
      obtain ⟨rfl, E_143, hE_143, vr_143, ke_143, kp_143⟩ := hq
      obtain ⟨x_143, hx_143⟩ : ∃ z : Int, z = (x_128 * x_135) := ⟨_, rfl⟩
      rw [← hx_143] at vr_143
      refine T_eq (pc' := 280) (L' := [(4, .int (nI ((rtG x_8 x_20)))), (0, .ref 373), (1, .int (nI 16)), (2, .ref fr), (3, .int (nI at0))]) (st' := []) (M' := M_143) rfl rfl rfl rfl ?_
      refine T_aload_n (v := .ref 373) d_Mo_mapPart_280 rfl (Or.inr ⟨_, rfl⟩) ?_
      refine T_iload_n d_Mo_mapPart_281 rfl ?_
      refine T_iconst (v := nI 3) d_Mo_mapPart_282 (by decide) ?_
      refine N_iadd (a := 3) (b := 16) (c := 19) d_Mo_mapPart_283 rfl ?_
      refine T_bipush (v := nI 28) d_Mo_mapPart_284 (by decide) ?_
      refine T_bipush (v := nI 31) d_Mo_mapPart_286 (by decide) ?_
      have r_144 := (ke_143 28 (by decide)).trans ((ke_140 28 (by decide)).trans ((ke_137 28 (by decide)).trans (r_136)))
      have r_145 := (ke_143 31 (by decide)).trans ((ke_140 31 (by decide)).trans (r_138))
      refine T_virtual (as := [.int (nI 19), .int (nI 28), .int (nI 31)]) (rest := []) (b := 373) d_Mo_mapPart_288 rfl (jw_Mo_mul.jo (by decide)) lm_Mo_163 ji_Mo_mul js_Mo_mul hE_143.ob rfl rfl rfl (Nat.le_of_ble_eq_true rfl) (by decide) (by decide) (u_Mo_mul hE_143 (by decide) (by decide) (by decide) r_144 r_145) (fun r M_146 hq => ?_)
      obtain ⟨rfl, E_146, hE_146, vr_146, ke_146, kp_146⟩ := hq
      obtain ⟨x_146, hx_146⟩ : ∃ z : Int, z = (x_125 * x_132) := ⟨_, rfl⟩
      rw [← hx_146] at vr_146
      refine T_eq (pc' := 291) (L' := [(4, .int (nI ((rtG x_8 x_20)))), (0, .ref 373), (1, .int (nI 16)), (2, .ref fr), (3, .int (nI at0))]) (st' := []) (M' := M_146) rfl rfl rfl rfl ?_
      have t0 : ph x_1 = ph (num32 (fun k => (b k : Int)) % n255) := by rw [hx_1]
      generalize ph (num32 (fun k => (b k : Int)) % n255) = t at *
      have r1 : ph x_4 = t * t * fI := by rw [hx_4, ph_mul, hx_2, ph_mul, t0, ph_cI]
      generalize hr : t * t * fI = r at r1
      have uu : ph x_8 = gU_ r := by rw [hx_8, ph_mul, hx_6, ph_add, r1, ph_1, ph_cO]; rfl
      have vv : ph x_20 = gV_ r := by rw [hx_20, ph_mul, hx_15, ph_zs, hx_13, ph_add, hx_11, ph_mul, hx_18, ph_add, r1, ph_1, ph_cD]; rfl
      have rr : ph x_24 = rR (gU_ r) (gV_ r) := by rw [hx_24, ph_rt, uu, vv]
      have gi := rtG_1 x_8 x_20
      rw [uu, vv] at gi
      have gd : ¬ rG (gU_ r) (gV_ r) := fun c => absurd (gi.mpr c) (by omega)
      have st : ph x_67 = rR (gU_ r) (gV_ r) * t := by rw [hx_67, ph_mul, rr, t0]
      have ss : ph x_110 = gS_ t r := by
        unfold gS_ ab; rw [if_neg gd]
        rw [if_neg (fun z => hb_68 ((od_of st).mp z)), hx_110, ph_zs, st]
      have cc : ph x_112 = gC_ t r := by rw [hx_112, r1]; unfold gC_; rw [if_neg gd]
      have nn : ph x_121 = gN_ t r := by
        rw [hx_121, ph_sub, vv, hx_119, ph_mul, hx_117, ph_mul, hx_115, ph_sub, cc, r1, ph_1, ph_cL]; unfold gN_; grind -lia -linarith
      have w0 : ph x_125 = (gS_ t r + gS_ t r) * gV_ r := by rw [hx_125, ph_mul, hx_123, ph_add, ss, vv]
      have w1 : ph x_128 = gN_ t r * fG := by rw [hx_128, ph_mul, nn, ph_cG]
      have w3 : ph x_135 = 1 + gS_ t r * gS_ t r := by rw [hx_135, ph_add, hx_130, ph_mul, ss, ph_1]
      have w2 : ph x_132 = 1 - gS_ t r * gS_ t r := by rw [hx_132, ph_sub, hx_130, ph_mul, ss, ph_1]
      have q0 : ph x_137 = gX_ t := by unfold gX_; rw [hr, hx_137, ph_mul, w0, w3]
      have q1 : ph x_140 = gY_ t := by unfold gY_; rw [hr, hx_140, ph_mul, w2, w1]
      have q2 : ph x_143 = gZ_ t := by unfold gZ_; rw [hr, hx_143, ph_mul, w1, w3]
      have q3 : ph x_146 = gT_ t := by unfold gT_; rw [hr, hx_146, ph_mul, w0, w2]
      have r_147 := (ke_146 16 (by decide)).trans ((ke_143 16 (by decide)).trans ((ke_140 16 (by decide)).trans (vr_137)))
      have r_148 := (ke_146 17 (by decide)).trans ((ke_143 17 (by decide)).trans (vr_140))
      have r_149 := (ke_146 18 (by decide)).trans (vr_143)
      exact T_vret d_Mo_mapPart_291 rfl (by decide) (by decide) ⟨rfl, _, _, _, _, ⟨q0, q1, q2, q3⟩, E_146, hE_146, ⟨r_147, r_148, r_149, vr_146⟩, (KE.tr (KE.tr (KE.tr (KE.tr (KE.tr (KE.tr (KE.tr (KE.tr (KE.tr (KE.tr (KE.tr (KE.tr (KE.tr (KE.tr (KE.tr (KE.tr (KE.tr (KE.tr (KE.tr (KE.tr (KE.tr (KE.tr (KE.tr (KE.tr (KE.tr (KE.tr (KE.tr (KE.tr (KE.tr (KE.tr (KE.rf : KE [20, 21, 22, 23, 24, 25, 26, 27, 28, 29, 30, 31, 50, 51, 52, 53, 54, 55, 56, 61, 62, 63, 16, 17, 18, 19] E E) (KE.mono ke_1 (by decide))) (KE.mono ke_2 (by decide))) (KE.mono ke_4 (by decide))) (KE.mono ke_6 (by decide))) (KE.mono ke_8 (by decide))) (KE.mono ke_11 (by decide))) (KE.mono ke_13 (by decide))) (KE.mono ke_15 (by decide))) (KE.mono ke_18 (by decide))) (KE.mono ke_20 (by decide))) (KE.mono ke_24 (by decide))) (KE.mono ke_27 (by decide))) (KE.mono ke_67 (by decide))) (KE.mono ke_68 (by decide))) (KE.mono ke_110 (by decide))) (KE.mono ke_112 (by decide))) (KE.mono ke_115 (by decide))) (KE.mono ke_117 (by decide))) (KE.mono ke_119 (by decide))) (KE.mono ke_121 (by decide))) (KE.mono ke_123 (by decide))) (KE.mono ke_125 (by decide))) (KE.mono ke_128 (by decide))) (KE.mono ke_130 (by decide))) (KE.mono ke_132 (by decide))) (KE.mono ke_135 (by decide))) (KE.mono ke_137 (by decide))) (KE.mono ke_140 (by decide))) (KE.mono ke_143 (by decide))) (KE.mono ke_146 (by decide))), (Kp.tr (Kp.tr (Kp.tr (Kp.tr (Kp.tr (Kp.tr (Kp.tr (Kp.tr (Kp.tr (Kp.tr (Kp.tr (Kp.tr (Kp.tr (Kp.tr (Kp.tr (Kp.tr (Kp.tr (Kp.tr (Kp.tr (Kp.tr (Kp.tr (Kp.tr (Kp.tr (Kp.tr (Kp.tr (Kp.tr (Kp.tr (Kp.tr (Kp.tr (Kp.tr (Kp.rf : Kp [390, 391, 392, 393, 394] M M) (Kp.mono kp_1 (by decide))) (Kp.mono kp_2 (by decide))) (Kp.mono kp_4 (by decide))) (Kp.mono kp_6 (by decide))) (Kp.mono kp_8 (by decide))) (Kp.mono kp_11 (by decide))) (Kp.mono kp_13 (by decide))) (Kp.mono kp_15 (by decide))) (Kp.mono kp_18 (by decide))) (Kp.mono kp_20 (by decide))) (Kp.mono kp_24 (by decide))) (Kp.mono kp_27 (by decide))) (Kp.mono kp_67 (by decide))) (Kp.mono kp_68 (by decide))) (Kp.mono kp_110 (by decide))) (Kp.mono kp_112 (by decide))) (Kp.mono kp_115 (by decide))) (Kp.mono kp_117 (by decide))) (Kp.mono kp_119 (by decide))) (Kp.mono kp_121 (by decide))) (Kp.mono kp_123 (by decide))) (Kp.mono kp_125 (by decide))) (Kp.mono kp_128 (by decide))) (Kp.mono kp_130 (by decide))) (Kp.mono kp_132 (by decide))) (Kp.mono kp_135 (by decide))) (Kp.mono kp_137 (by decide))) (Kp.mono kp_140 (by decide))) (Kp.mono kp_143 (by decide))) (Kp.mono kp_146 (by decide)))⟩
set_option maxHeartbeats 8000000 in
theorem dc_lp (G : GX) {M : List va_E} {v : Nat → Int32} {fr at0 n : Nat} {g P : Nat → Int32} {b c : Nat → Nat} (ho : M[373]? = some (moO v)) (hP : M[394]? = some (ir 32 P)) (hP2 : ∀ k, k < 32 → P k = nI (c k)) (hc : ∀ k, k < 32 → c k < 256) (hg : M[fr]? = some (ir n g)) (hn : at0 + 32 ≤ n) (hn2 : n < 2 ^ 31) (hb : ∀ k, k < 32 → g (at0 + k) = nI (b k)) (hb2 : ∀ k, k < 32 → b k < 256) {Q : Option Value → List va_E → Prop} (ky : (∀ k, k < 32 → c k = b k) → TT G mi_Mo_decode 64 [(0, .ref 373), (1, .int (nI 12)), (2, .ref fr), (3, .int (nI at0))] [] M 0 0 Q) (kn : ¬ (∀ k, k < 32 → c k = b k) → Q (some (.int (nI 0))) M) : ∀ j k, k + j = 32 → (∀ i, i < k → c i = b i) → TT G mi_Mo_decode 33 [(4, .int (nI k)), (0, .ref 373), (1, .int (nI 12)), (2, .ref fr), (3, .int (nI at0))] [] M 0 0 Q := by
  intro j
  induction j with
  | zero =>
    intro k hk hI
    obtain rfl : k = 32 := by omega
    refine T_iload d_Mo_decode_33 rfl ?_
    refine T_bipush (v := nI 32) d_Mo_decode_35 (by decide) ?_
    refine N_icmp_ge_t (a := 32) (b := 32) d_Mo_decode_37 (tgt := 64) rfl (by omega) (by omega) (by omega) ?_
    exact T_sub (fun q hq => List.mem_cons_of_mem _ hq) (ky hI)
  | succ j ih =>
    intro k hk hI
    have hck := hc k (by omega)
    have hbk := hb2 k (by omega)
    refine T_iload d_Mo_decode_33 rfl ?_
    refine T_bipush (v := nI 32) d_Mo_decode_35 (by decide) ?_
    refine N_icmp_ge_f (a := 32) (b := k) d_Mo_decode_37 (tgt := 64) rfl (by omega) (by omega) (by omega) ?_
    refine T_aload_n (v := .ref 373) d_Mo_decode_40 rfl (Or.inr ⟨_, rfl⟩) ?_
    refine T_getfield (v := .ref 394) d_Mo_decode_41 fg_Mo_146 ho rfl ?_
    refine T_iload d_Mo_decode_44 rfl ?_
    refine N_iaload (k := k) (x := (nI ((c k)))) d_Mo_decode_46 hP (by omega) (by decide) (hP2 k (by omega)) ?_
    refine T_aload_n (v := .ref fr) d_Mo_decode_47 rfl (Or.inr ⟨_, rfl⟩) ?_
    refine T_iload_n d_Mo_decode_48 rfl ?_
    refine T_iload d_Mo_decode_49 rfl ?_
    refine N_iadd (a := k) (b := at0) (c := (at0 + k)) d_Mo_decode_51 rfl ?_
    refine N_iaload (k := (at0 + k)) (x := (nI ((b k)))) d_Mo_decode_52 hg (by omega) (by omega) (hb k (by omega)) ?_
    refine N_icmp_eq (a := (b k)) (b := (c k)) d_Mo_decode_53 (tgt := 58) rfl (by omega) (by omega) (fun he => ?_) (fun he => ?_)
    ·
      refine N_iinc (k := k) (m := 1) (c := (k + 1)) (L' := [(4, .int (nI ((k + 1)))), (0, .ref 373), (1, .int (nI 12)), (2, .ref fr), (3, .int (nI at0))]) d_Mo_decode_58 (by decide) rfl (by decide) rfl rfl ?_
      refine T_goto (tgt := 33) d_Mo_decode_61 rfl ?_
      exact ih (k + 1) (by omega) (fun i hi => by by_cases e : i = k; subst e; exact he; exact hI i (by omega))
    ·
      refine T_iconst (v := nI 0) d_Mo_decode_56 (by decide) ?_
      exact T_ret d_Mo_decode_57 rfl (by decide) (by decide) (by decide) (kn (fun c => he (c k (by omega))))
set_option maxHeartbeats 8000000 in
theorem u_Mo_decode {G : GX} {M : List va_E} {v : Nat → Int32} {E : Nat → Int} (hE : RE M v E) (ck : CK E) {fr at0 n : Nat} {g : Nat → Int32} {b : Nat → Nat} (hg : M[fr]? = some (ir n g)) (kf : fr ∉ RW) (hn : at0 + 32 ≤ n) (hn2 : n < 2 ^ 31) (hb : ∀ k, k < 32 → g (at0 + k) = nI (b k)) (hb2 : ∀ k, k < 32 → b k < 256) : CT G mi_Mo_decode [.ref 373, .int (nI 12), .ref fr, .int (nI at0)] M (fun r M' => r = some (.int (nI (if dec (num32 (fun k => (b k : Int))) then 1 else 0))) ∧ ∃ E', RE M' v E' ∧ (dec (num32 (fun k => (b k : Int))) → ∃ X Y T, P4 E' 12 X Y 1 T ∧ ph X = qE (ph (num32 (fun k => (b k : Int)))) ∧ ph Y = qG (ph (num32 (fun k => (b k : Int)))) ∧ ph T = qE (ph (num32 (fun k => (b k : Int)))) * qG (ph (num32 (fun k => (b k : Int))))) ∧ KE [20, 21, 22, 23, 24, 25, 26, 27, 28, 29, 30, 50, 51, 52, 53, 54, 55, 56, 61, 62, 63, 12, 13, 14, 15] E E' ∧ Kp RW M M') := by
  refine CT.of (by decide) (Nat.le_of_ble_eq_true rfl) ?_
  show TT G mi_Mo_decode 0 [(0, .ref 373), (1, .int (nI 12)), (2, .ref fr), (3, .int (nI at0))] [] M 0 0 _
  have hb31 := hb2 31 (by decide)
  have hN := num32_hi hb2
  refine T_aload_n (v := .ref 373) d_Mo_decode_0 rfl (Or.inr ⟨_, rfl⟩) ?_
  refine T_bipush (v := nI 20) d_Mo_decode_1 (by decide) ?_
  refine T_aload_n (v := .ref fr) d_Mo_decode_3 rfl (Or.inr ⟨_, rfl⟩) ?_
  refine T_iload_n d_Mo_decode_4 rfl ?_
  refine T_virtual (as := [.int (nI 20), .ref fr, .int (nI at0)]) (rest := []) (b := 373) d_Mo_decode_5 rfl (jw_Mo_unpack.jo (by decide)) lm_Mo_201 ji_Mo_unpack js_Mo_unpack hE.ob rfl rfl rfl (Nat.le_of_ble_eq_true rfl) (by decide) (by decide) (u_Mo_unpack hE (by decide) hg (fun c => kf (by rw [c]; decide)) hn hn2 hb hb2) (fun r M_1 hq => ?_)
  obtain ⟨rfl, E_1, hE_1, vr_1, ke_1, kp_1⟩ := hq
  obtain ⟨x_1, hx_1⟩ : ∃ z : Int, z = (num32 (fun k => (b k : Int)) % n255) := ⟨_, rfl⟩
  rw [← hx_1] at vr_1
  refine T_eq (pc' := 8) (L' := [(0, .ref 373), (1, .int (nI 12)), (2, .ref fr), (3, .int (nI at0))]) (st' := []) (M' := M_1) rfl rfl rfl rfl ?_
  refine T_aload_n (v := .ref fr) d_Mo_decode_8 rfl (Or.inr ⟨_, rfl⟩) ?_
  refine T_iload_n d_Mo_decode_9 rfl ?_
  refine T_bipush (v := nI 31) d_Mo_decode_10 (by decide) ?_
  refine N_iadd (a := 31) (b := at0) (c := (at0 + 31)) d_Mo_decode_12 rfl ?_
  have h_2 := (kp_1 fr kf).trans (hg)
  refine N_iaload (k := (at0 + 31)) (x := (nI ((b 31)))) d_Mo_decode_13 h_2 (by omega) (by omega) (hb 31 (by decide)) ?_
  refine T_bipush (v := nI 127) d_Mo_decode_14 (by decide) ?_
  refine N_icmp_gt (a := 127) (b := (b 31)) d_Mo_decode_16 (tgt := 28) rfl (by omega) (by omega) (fun h127 => ?_) (fun h127 => ?_)
  ·
    refine T_iconst (v := nI 0) d_Mo_decode_28 (by decide) ?_
    have hno : ¬ dec (num32 (fun k => (b k : Int))) := dec_no2 hb2 (by omega)
    exact T_ret d_Mo_decode_29 rfl (by decide) (by decide) (by decide) ⟨by rw [if_neg hno], _, hE_1, fun c => absurd c hno, (KE.tr (KE.rf : KE [20, 21, 22, 23, 24, 25, 26, 27, 28, 29, 30, 50, 51, 52, 53, 54, 55, 56, 61, 62, 63, 12, 13, 14, 15] E E) (KE.mono ke_1 (by decide))), (Kp.tr (Kp.rf : Kp [390, 391, 392, 393, 394] M M) (Kp.mono kp_1 (by decide)))⟩
  ·
    refine T_aload_n (v := .ref 373) d_Mo_decode_19 rfl (Or.inr ⟨_, rfl⟩) ?_
    refine T_bipush (v := nI 20) d_Mo_decode_20 (by decide) ?_
    refine T_virtual (as := [.int (nI 20)]) (rest := []) (b := 373) d_Mo_decode_22 rfl (jw_Mo_odd.jo (by decide)) lm_Mo_174 ji_Mo_odd js_Mo_odd hE_1.ob rfl rfl rfl (Nat.le_of_ble_eq_true rfl) (by decide) (by decide) (u_Mo_odd hE_1 (by decide) vr_1) (fun r M_3 hq => ?_)
    obtain ⟨rfl, pk_3, E_3, hE_3, ke_3, kp_3⟩ := hq
    by_cases hb_3 : (x_1 % pP) % 2 = 1
    · rw [if_pos hb_3]
      refine T_eq (pc' := 25) (L' := [(0, .ref 373), (1, .int (nI 12)), (2, .ref fr), (3, .int (nI at0))]) (st' := [.int (nI 1)]) (M' := M_3) rfl rfl rfl rfl ?_
      refine N_if_eq_f (b := 1) d_Mo_decode_25 (tgt := 30) rfl (by omega) (by omega) ?_
      refine T_iconst (v := nI 0) d_Mo_decode_28 (by decide) ?_
      have hno : ¬ dec (num32 (fun k => (b k : Int))) := dec_no3 (hx_1 ▸ hb_3)
      exact T_ret d_Mo_decode_29 rfl (by decide) (by decide) (by decide) ⟨by rw [if_neg hno], _, hE_3, fun c => absurd c hno, (KE.tr (KE.tr (KE.rf : KE [20, 21, 22, 23, 24, 25, 26, 27, 28, 29, 30, 50, 51, 52, 53, 54, 55, 56, 61, 62, 63, 12, 13, 14, 15] E E) (KE.mono ke_1 (by decide))) (KE.mono ke_3 (by decide))), (Kp.tr (Kp.tr (Kp.rf : Kp [390, 391, 392, 393, 394] M M) (Kp.mono kp_1 (by decide))) (Kp.mono kp_3 (by decide)))⟩
    · rw [if_neg hb_3]
      refine T_eq (pc' := 25) (L' := [(0, .ref 373), (1, .int (nI 12)), (2, .ref fr), (3, .int (nI at0))]) (st' := [.int (nI 0)]) (M' := M_3) rfl rfl rfl rfl ?_
      refine N_if_eq_t (b := 0) d_Mo_decode_25 (tgt := 30) rfl (by omega) (by omega) ?_
      refine T_iconst (v := nI 0) d_Mo_decode_30 (by decide) ?_
      refine T_istore (L' := [(4, .int (nI 0)), (0, .ref 373), (1, .int (nI 12)), (2, .ref fr), (3, .int (nI at0))]) d_Mo_decode_31 (by decide) rfl ?_
      obtain ⟨P, hP, hP2⟩ := pk_3
      have h_4 := (kp_3 fr kf).trans (h_2)
      refine dc_lp (c := byN x_1) G hE_3.ob hP hP2 (fun k _ => byN_lt _ k) h_4 hn hn2 hb hb2 (fun hq => ?_) (fun hq => ?_) 32 0 rfl (fun i hi => absurd hi (by omega))
      rotate_left
      · exact ⟨by rw [if_neg (dec_no1 hb2 (hx_1 ▸ hq))], _, hE_3, fun c => absurd c (dec_no1 hb2 (hx_1 ▸ hq)), (KE.tr (KE.tr (KE.rf : KE [20, 21, 22, 23, 24, 25, 26, 27, 28, 29, 30, 50, 51, 52, 53, 54, 55, 56, 61, 62, 63, 12, 13, 14, 15] E E) (KE.mono ke_1 (by decide))) (KE.mono ke_3 (by decide))), (Kp.tr (Kp.tr (Kp.rf : Kp [390, 391, 392, 393, 394] M M) (Kp.mono kp_1 (by decide))) (Kp.mono kp_3 (by decide)))⟩
      have hcan := dec_can hb2 (by omega) (hx_1 ▸ hq)
      refine T_aload_n (v := .ref 373) d_Mo_decode_64 rfl (Or.inr ⟨_, rfl⟩) ?_
      refine T_bipush (v := nI 21) d_Mo_decode_65 (by decide) ?_
      refine T_bipush (v := nI 20) d_Mo_decode_67 (by decide) ?_
      refine T_bipush (v := nI 20) d_Mo_decode_69 (by decide) ?_
      have r_5 := (ke_3 20 (by decide)).trans (vr_1)
      refine T_virtual (as := [.int (nI 21), .int (nI 20), .int (nI 20)]) (rest := []) (b := 373) d_Mo_decode_71 rfl (jw_Mo_mul.jo (by decide)) lm_Mo_163 ji_Mo_mul js_Mo_mul hE_3.ob rfl rfl rfl (Nat.le_of_ble_eq_true rfl) (by decide) (by decide) (u_Mo_mul hE_3 (by decide) (by decide) (by decide) r_5 r_5) (fun r M_6 hq => ?_)
      obtain ⟨rfl, E_6, hE_6, vr_6, ke_6, kp_6⟩ := hq
      obtain ⟨x_6, hx_6⟩ : ∃ z : Int, z = (x_1 * x_1) := ⟨_, rfl⟩
      rw [← hx_6] at vr_6
      refine T_eq (pc' := 74) (L' := [(0, .ref 373), (1, .int (nI 12)), (2, .ref fr), (3, .int (nI at0))]) (st' := []) (M' := M_6) rfl rfl rfl rfl ?_
      refine T_aload_n (v := .ref 373) d_Mo_decode_74 rfl (Or.inr ⟨_, rfl⟩) ?_
      refine T_bipush (v := nI 22) d_Mo_decode_75 (by decide) ?_
      refine T_iconst (v := nI 1) d_Mo_decode_77 (by decide) ?_
      refine T_bipush (v := nI 21) d_Mo_decode_78 (by decide) ?_
      have r_7 := (ke_6 1 (by decide)).trans ((ke_3 1 (by decide)).trans ((ke_1 1 (by decide)).trans (ck.c1)))
      refine T_virtual (as := [.int (nI 22), .int (nI 1), .int (nI 21)]) (rest := []) (b := 373) d_Mo_decode_80 rfl (jw_Mo_sub.jo (by decide)) lm_Mo_152 ji_Mo_sub js_Mo_sub hE_6.ob rfl rfl rfl (Nat.le_of_ble_eq_true rfl) (by decide) (by decide) (u_Mo_sub hE_6 (by decide) (by decide) (by decide) r_7 vr_6) (fun r M_8 hq => ?_)
      obtain ⟨rfl, E_8, hE_8, vr_8, ke_8, kp_8⟩ := hq
      obtain ⟨x_8, hx_8⟩ : ∃ z : Int, z = (1 - x_6) := ⟨_, rfl⟩
      rw [← hx_8] at vr_8
      refine T_eq (pc' := 83) (L' := [(0, .ref 373), (1, .int (nI 12)), (2, .ref fr), (3, .int (nI at0))]) (st' := []) (M' := M_8) rfl rfl rfl rfl ?_
      refine T_aload_n (v := .ref 373) d_Mo_decode_83 rfl (Or.inr ⟨_, rfl⟩) ?_
      refine T_bipush (v := nI 23) d_Mo_decode_84 (by decide) ?_
      refine T_iconst (v := nI 1) d_Mo_decode_86 (by decide) ?_
      refine T_bipush (v := nI 21) d_Mo_decode_87 (by decide) ?_
      have r_9 := (ke_8 1 (by decide)).trans (r_7)
      have r_10 := (ke_8 21 (by decide)).trans (vr_6)
      refine T_virtual (as := [.int (nI 23), .int (nI 1), .int (nI 21)]) (rest := []) (b := 373) d_Mo_decode_89 rfl (jw_Mo_add.jo (by decide)) lm_Mo_182 ji_Mo_add js_Mo_add hE_8.ob rfl rfl rfl (Nat.le_of_ble_eq_true rfl) (by decide) (by decide) (u_Mo_add hE_8 (by decide) (by decide) (by decide) r_9 r_10) (fun r M_11 hq => ?_)
      obtain ⟨rfl, E_11, hE_11, vr_11, ke_11, kp_11⟩ := hq
      obtain ⟨x_11, hx_11⟩ : ∃ z : Int, z = (1 + x_6) := ⟨_, rfl⟩
      rw [← hx_11] at vr_11
      refine T_eq (pc' := 92) (L' := [(0, .ref 373), (1, .int (nI 12)), (2, .ref fr), (3, .int (nI at0))]) (st' := []) (M' := M_11) rfl rfl rfl rfl ?_
      refine T_aload_n (v := .ref 373) d_Mo_decode_92 rfl (Or.inr ⟨_, rfl⟩) ?_
      refine T_bipush (v := nI 24) d_Mo_decode_93 (by decide) ?_
      refine T_bipush (v := nI 23) d_Mo_decode_95 (by decide) ?_
      refine T_bipush (v := nI 23) d_Mo_decode_97 (by decide) ?_
      refine T_virtual (as := [.int (nI 24), .int (nI 23), .int (nI 23)]) (rest := []) (b := 373) d_Mo_decode_99 rfl (jw_Mo_mul.jo (by decide)) lm_Mo_163 ji_Mo_mul js_Mo_mul hE_11.ob rfl rfl rfl (Nat.le_of_ble_eq_true rfl) (by decide) (by decide) (u_Mo_mul hE_11 (by decide) (by decide) (by decide) vr_11 vr_11) (fun r M_12 hq => ?_)
      obtain ⟨rfl, E_12, hE_12, vr_12, ke_12, kp_12⟩ := hq
      obtain ⟨x_12, hx_12⟩ : ∃ z : Int, z = (x_11 * x_11) := ⟨_, rfl⟩
      rw [← hx_12] at vr_12
      refine T_eq (pc' := 102) (L' := [(0, .ref 373), (1, .int (nI 12)), (2, .ref fr), (3, .int (nI at0))]) (st' := []) (M' := M_12) rfl rfl rfl rfl ?_
      refine T_aload_n (v := .ref 373) d_Mo_decode_102 rfl (Or.inr ⟨_, rfl⟩) ?_
      refine T_bipush (v := nI 25) d_Mo_decode_103 (by decide) ?_
      refine T_bipush (v := nI 22) d_Mo_decode_105 (by decide) ?_
      refine T_bipush (v := nI 22) d_Mo_decode_107 (by decide) ?_
      have r_13 := (ke_12 22 (by decide)).trans ((ke_11 22 (by decide)).trans (vr_8))
      refine T_virtual (as := [.int (nI 25), .int (nI 22), .int (nI 22)]) (rest := []) (b := 373) d_Mo_decode_109 rfl (jw_Mo_mul.jo (by decide)) lm_Mo_163 ji_Mo_mul js_Mo_mul hE_12.ob rfl rfl rfl (Nat.le_of_ble_eq_true rfl) (by decide) (by decide) (u_Mo_mul hE_12 (by decide) (by decide) (by decide) r_13 r_13) (fun r M_14 hq => ?_)
      obtain ⟨rfl, E_14, hE_14, vr_14, ke_14, kp_14⟩ := hq
      obtain ⟨x_14, hx_14⟩ : ∃ z : Int, z = (x_8 * x_8) := ⟨_, rfl⟩
      rw [← hx_14] at vr_14
      refine T_eq (pc' := 112) (L' := [(0, .ref 373), (1, .int (nI 12)), (2, .ref fr), (3, .int (nI at0))]) (st' := []) (M' := M_14) rfl rfl rfl rfl ?_
      refine T_aload_n (v := .ref 373) d_Mo_decode_112 rfl (Or.inr ⟨_, rfl⟩) ?_
      refine T_bipush (v := nI 25) d_Mo_decode_113 (by decide) ?_
      refine T_bipush (v := nI 25) d_Mo_decode_115 (by decide) ?_
      refine T_iconst (v := nI 2) d_Mo_decode_117 (by decide) ?_
      have r_15 := (ke_14 2 (by decide)).trans ((ke_12 2 (by decide)).trans ((ke_11 2 (by decide)).trans ((ke_8 2 (by decide)).trans ((ke_6 2 (by decide)).trans ((ke_3 2 (by decide)).trans ((ke_1 2 (by decide)).trans (ck.c2)))))))
      refine T_virtual (as := [.int (nI 25), .int (nI 25), .int (nI 2)]) (rest := []) (b := 373) d_Mo_decode_118 rfl (jw_Mo_mul.jo (by decide)) lm_Mo_163 ji_Mo_mul js_Mo_mul hE_14.ob rfl rfl rfl (Nat.le_of_ble_eq_true rfl) (by decide) (by decide) (u_Mo_mul hE_14 (by decide) (by decide) (by decide) vr_14 r_15) (fun r M_16 hq => ?_)
      obtain ⟨rfl, E_16, hE_16, vr_16, ke_16, kp_16⟩ := hq
      obtain ⟨x_16, hx_16⟩ : ∃ z : Int, z = (x_14 * cD) := ⟨_, rfl⟩
      rw [← hx_16] at vr_16
      refine T_eq (pc' := 121) (L' := [(0, .ref 373), (1, .int (nI 12)), (2, .ref fr), (3, .int (nI at0))]) (st' := []) (M' := M_16) rfl rfl rfl rfl ?_
      refine T_aload_n (v := .ref 373) d_Mo_decode_121 rfl (Or.inr ⟨_, rfl⟩) ?_
      refine T_bipush (v := nI 25) d_Mo_decode_122 (by decide) ?_
      refine T_iconst (v := nI 0) d_Mo_decode_124 (by decide) ?_
      refine T_bipush (v := nI 25) d_Mo_decode_125 (by decide) ?_
      have r_17 := (ke_16 0 (by decide)).trans ((ke_14 0 (by decide)).trans ((ke_12 0 (by decide)).trans ((ke_11 0 (by decide)).trans ((ke_8 0 (by decide)).trans ((ke_6 0 (by decide)).trans ((ke_3 0 (by decide)).trans ((ke_1 0 (by decide)).trans (ck.c0))))))))
      refine T_virtual (as := [.int (nI 25), .int (nI 0), .int (nI 25)]) (rest := []) (b := 373) d_Mo_decode_127 rfl (jw_Mo_sub.jo (by decide)) lm_Mo_152 ji_Mo_sub js_Mo_sub hE_16.ob rfl rfl rfl (Nat.le_of_ble_eq_true rfl) (by decide) (by decide) (u_Mo_sub hE_16 (by decide) (by decide) (by decide) r_17 vr_16) (fun r M_18 hq => ?_)
      obtain ⟨rfl, E_18, hE_18, vr_18, ke_18, kp_18⟩ := hq
      obtain ⟨x_18, hx_18⟩ : ∃ z : Int, z = (0 - x_16) := ⟨_, rfl⟩
      rw [← hx_18] at vr_18
      refine T_eq (pc' := 130) (L' := [(0, .ref 373), (1, .int (nI 12)), (2, .ref fr), (3, .int (nI at0))]) (st' := []) (M' := M_18) rfl rfl rfl rfl ?_
      refine T_aload_n (v := .ref 373) d_Mo_decode_130 rfl (Or.inr ⟨_, rfl⟩) ?_
      refine T_bipush (v := nI 25) d_Mo_decode_131 (by decide) ?_
      refine T_bipush (v := nI 25) d_Mo_decode_133 (by decide) ?_
      refine T_bipush (v := nI 24) d_Mo_decode_135 (by decide) ?_
      have r_19 := (ke_18 24 (by decide)).trans ((ke_16 24 (by decide)).trans ((ke_14 24 (by decide)).trans (vr_12)))
      refine T_virtual (as := [.int (nI 25), .int (nI 25), .int (nI 24)]) (rest := []) (b := 373) d_Mo_decode_137 rfl (jw_Mo_sub.jo (by decide)) lm_Mo_152 ji_Mo_sub js_Mo_sub hE_18.ob rfl rfl rfl (Nat.le_of_ble_eq_true rfl) (by decide) (by decide) (u_Mo_sub hE_18 (by decide) (by decide) (by decide) vr_18 r_19) (fun r M_20 hq => ?_)
      obtain ⟨rfl, E_20, hE_20, vr_20, ke_20, kp_20⟩ := hq
      obtain ⟨x_20, hx_20⟩ : ∃ z : Int, z = (x_18 - x_12) := ⟨_, rfl⟩
      rw [← hx_20] at vr_20
      refine T_eq (pc' := 140) (L' := [(0, .ref 373), (1, .int (nI 12)), (2, .ref fr), (3, .int (nI at0))]) (st' := []) (M' := M_20) rfl rfl rfl rfl ?_
      refine T_aload_n (v := .ref 373) d_Mo_decode_140 rfl (Or.inr ⟨_, rfl⟩) ?_
      refine T_bipush (v := nI 26) d_Mo_decode_141 (by decide) ?_
      refine T_bipush (v := nI 25) d_Mo_decode_143 (by decide) ?_
      refine T_bipush (v := nI 24) d_Mo_decode_145 (by decide) ?_
      have r_21 := (ke_20 24 (by decide)).trans (r_19)
      refine T_virtual (as := [.int (nI 26), .int (nI 25), .int (nI 24)]) (rest := []) (b := 373) d_Mo_decode_147 rfl (jw_Mo_mul.jo (by decide)) lm_Mo_163 ji_Mo_mul js_Mo_mul hE_20.ob rfl rfl rfl (Nat.le_of_ble_eq_true rfl) (by decide) (by decide) (u_Mo_mul hE_20 (by decide) (by decide) (by decide) vr_20 r_21) (fun r M_22 hq => ?_)
      obtain ⟨rfl, E_22, hE_22, vr_22, ke_22, kp_22⟩ := hq
      obtain ⟨x_22, hx_22⟩ : ∃ z : Int, z = (x_20 * x_12) := ⟨_, rfl⟩
      rw [← hx_22] at vr_22
      refine T_eq (pc' := 150) (L' := [(0, .ref 373), (1, .int (nI 12)), (2, .ref fr), (3, .int (nI at0))]) (st' := []) (M' := M_22) rfl rfl rfl rfl ?_
      refine T_aload_n (v := .ref 373) d_Mo_decode_150 rfl (Or.inr ⟨_, rfl⟩) ?_
      refine T_bipush (v := nI 27) d_Mo_decode_151 (by decide) ?_
      refine T_iconst (v := nI 1) d_Mo_decode_153 (by decide) ?_
      refine T_bipush (v := nI 26) d_Mo_decode_154 (by decide) ?_
      have r_23 := (ke_22 1 (by decide)).trans ((ke_20 1 (by decide)).trans ((ke_18 1 (by decide)).trans ((ke_16 1 (by decide)).trans ((ke_14 1 (by decide)).trans ((ke_12 1 (by decide)).trans ((ke_11 1 (by decide)).trans (r_9)))))))
      have r_24 := (ke_22 0 (by decide)).trans ((ke_20 0 (by decide)).trans ((ke_18 0 (by decide)).trans (r_17)))
      have r_25 := (ke_22 3 (by decide)).trans ((ke_20 3 (by decide)).trans ((ke_18 3 (by decide)).trans ((ke_16 3 (by decide)).trans ((ke_14 3 (by decide)).trans ((ke_12 3 (by decide)).trans ((ke_11 3 (by decide)).trans ((ke_8 3 (by decide)).trans ((ke_6 3 (by decide)).trans ((ke_3 3 (by decide)).trans ((ke_1 3 (by decide)).trans (ck.c3)))))))))))
      refine T_virtual (as := [.int (nI 27), .int (nI 1), .int (nI 26)]) (rest := []) (b := 373) d_Mo_decode_156 rfl (jw_Mo_root.jo (by decide)) lm_Mo_197 ji_Mo_root js_Mo_root hE_22.ob rfl rfl rfl (Nat.le_of_ble_eq_true rfl) (by decide) (by decide) (u_Mo_root hE_22 r_24 r_25 (by decide) (by decide) (by decide) (by decide) (by decide) r_23 vr_22) (fun r M_26 hq => ?_)
      obtain ⟨rfl, E_26, hE_26, vr_26, ke_26, kp_26⟩ := hq
      obtain ⟨x_26, hx_26⟩ : ∃ z : Int, z = (rt 1 x_22) := ⟨_, rfl⟩
      rw [← hx_26] at vr_26
      have hg_26 := rtG_le 1 x_22
      refine T_eq (pc' := 159) (L' := [(0, .ref 373), (1, .int (nI 12)), (2, .ref fr), (3, .int (nI at0))]) (st' := [.int (nI ((rtG 1 x_22)))]) (M' := M_26) rfl rfl rfl rfl ?_
      refine T_istore (L' := [(4, .int (nI ((rtG 1 x_22)))), (0, .ref 373), (1, .int (nI 12)), (2, .ref fr), (3, .int (nI at0))]) d_Mo_decode_159 (by decide) rfl ?_
      refine T_aload_n (v := .ref 373) d_Mo_decode_161 rfl (Or.inr ⟨_, rfl⟩) ?_
      refine T_bipush (v := nI 28) d_Mo_decode_162 (by decide) ?_
      refine T_bipush (v := nI 27) d_Mo_decode_164 (by decide) ?_
      refine T_bipush (v := nI 23) d_Mo_decode_166 (by decide) ?_
      have r_27 := (ke_26 23 (by decide)).trans ((ke_22 23 (by decide)).trans ((ke_20 23 (by decide)).trans ((ke_18 23 (by decide)).trans ((ke_16 23 (by decide)).trans ((ke_14 23 (by decide)).trans ((ke_12 23 (by decide)).trans (vr_11)))))))
      refine T_virtual (as := [.int (nI 28), .int (nI 27), .int (nI 23)]) (rest := []) (b := 373) d_Mo_decode_168 rfl (jw_Mo_mul.jo (by decide)) lm_Mo_163 ji_Mo_mul js_Mo_mul hE_26.ob rfl rfl rfl (Nat.le_of_ble_eq_true rfl) (by decide) (by decide) (u_Mo_mul hE_26 (by decide) (by decide) (by decide) vr_26 r_27) (fun r M_28 hq => ?_)
      obtain ⟨rfl, E_28, hE_28, vr_28, ke_28, kp_28⟩ := hq
      obtain ⟨x_28, hx_28⟩ : ∃ z : Int, z = (x_26 * x_11) := ⟨_, rfl⟩
      rw [← hx_28] at vr_28
      refine T_eq (pc' := 171) (L' := [(4, .int (nI ((rtG 1 x_22)))), (0, .ref 373), (1, .int (nI 12)), (2, .ref fr), (3, .int (nI at0))]) (st' := []) (M' := M_28) rfl rfl rfl rfl ?_
      refine T_aload_n (v := .ref 373) d_Mo_decode_171 rfl (Or.inr ⟨_, rfl⟩) ?_
      refine T_bipush (v := nI 29) d_Mo_decode_172 (by decide) ?_
      refine T_bipush (v := nI 20) d_Mo_decode_174 (by decide) ?_
      refine T_bipush (v := nI 20) d_Mo_decode_176 (by decide) ?_
      have r_29 := (ke_28 20 (by decide)).trans ((ke_26 20 (by decide)).trans ((ke_22 20 (by decide)).trans ((ke_20 20 (by decide)).trans ((ke_18 20 (by decide)).trans ((ke_16 20 (by decide)).trans ((ke_14 20 (by decide)).trans ((ke_12 20 (by decide)).trans ((ke_11 20 (by decide)).trans ((ke_8 20 (by decide)).trans ((ke_6 20 (by decide)).trans (r_5)))))))))))
      refine T_virtual (as := [.int (nI 29), .int (nI 20), .int (nI 20)]) (rest := []) (b := 373) d_Mo_decode_178 rfl (jw_Mo_add.jo (by decide)) lm_Mo_182 ji_Mo_add js_Mo_add hE_28.ob rfl rfl rfl (Nat.le_of_ble_eq_true rfl) (by decide) (by decide) (u_Mo_add hE_28 (by decide) (by decide) (by decide) r_29 r_29) (fun r M_30 hq => ?_)
      obtain ⟨rfl, E_30, hE_30, vr_30, ke_30, kp_30⟩ := hq
      obtain ⟨x_30, hx_30⟩ : ∃ z : Int, z = (x_1 + x_1) := ⟨_, rfl⟩
      rw [← hx_30] at vr_30
      refine T_eq (pc' := 181) (L' := [(4, .int (nI ((rtG 1 x_22)))), (0, .ref 373), (1, .int (nI 12)), (2, .ref fr), (3, .int (nI at0))]) (st' := []) (M' := M_30) rfl rfl rfl rfl ?_
      refine T_aload_n (v := .ref 373) d_Mo_decode_181 rfl (Or.inr ⟨_, rfl⟩) ?_
      refine T_bipush (v := nI 29) d_Mo_decode_182 (by decide) ?_
      refine T_bipush (v := nI 29) d_Mo_decode_184 (by decide) ?_
      refine T_bipush (v := nI 28) d_Mo_decode_186 (by decide) ?_
      have r_31 := (ke_30 28 (by decide)).trans (vr_28)
      refine T_virtual (as := [.int (nI 29), .int (nI 29), .int (nI 28)]) (rest := []) (b := 373) d_Mo_decode_188 rfl (jw_Mo_mul.jo (by decide)) lm_Mo_163 ji_Mo_mul js_Mo_mul hE_30.ob rfl rfl rfl (Nat.le_of_ble_eq_true rfl) (by decide) (by decide) (u_Mo_mul hE_30 (by decide) (by decide) (by decide) vr_30 r_31) (fun r M_32 hq => ?_)
      obtain ⟨rfl, E_32, hE_32, vr_32, ke_32, kp_32⟩ := hq
      obtain ⟨x_32, hx_32⟩ : ∃ z : Int, z = (x_30 * x_28) := ⟨_, rfl⟩
      rw [← hx_32] at vr_32
      refine T_eq (pc' := 191) (L' := [(4, .int (nI ((rtG 1 x_22)))), (0, .ref 373), (1, .int (nI 12)), (2, .ref fr), (3, .int (nI at0))]) (st' := []) (M' := M_32) rfl rfl rfl rfl ?_
      refine T_aload_n (v := .ref 373) d_Mo_decode_191 rfl (Or.inr ⟨_, rfl⟩) ?_
      refine T_bipush (v := nI 29) d_Mo_decode_192 (by decide) ?_
      refine T_virtual (as := [.int (nI 29)]) (rest := []) (b := 373) d_Mo_decode_194 rfl (jw_Mo_odd.jo (by decide)) lm_Mo_174 ji_Mo_odd js_Mo_odd hE_32.ob rfl rfl rfl (Nat.le_of_ble_eq_true rfl) (by decide) (by decide) (u_Mo_odd hE_32 (by decide) vr_32) (fun r M_33 hq => ?_)
      obtain ⟨rfl, pk_33, E_33, hE_33, ke_33, kp_33⟩ := hq
      by_cases hb_33 : (x_32 % pP) % 2 = 1
      · rw [if_pos hb_33]
        refine T_eq (pc' := 197) (L' := [(4, .int (nI ((rtG 1 x_22)))), (0, .ref 373), (1, .int (nI 12)), (2, .ref fr), (3, .int (nI at0))]) (st' := [.int (nI 1)]) (M' := M_33) rfl rfl rfl rfl ?_
        refine N_if_eq_f (b := 1) d_Mo_decode_197 (tgt := 209) rfl (by omega) (by omega) ?_
        refine T_aload_n (v := .ref 373) d_Mo_decode_200 rfl (Or.inr ⟨_, rfl⟩) ?_
        refine T_bipush (v := nI 29) d_Mo_decode_201 (by decide) ?_
        refine T_iconst (v := nI 0) d_Mo_decode_203 (by decide) ?_
        refine T_bipush (v := nI 29) d_Mo_decode_204 (by decide) ?_
        have r_34 := (ke_33 0 (by decide)).trans ((ke_32 0 (by decide)).trans ((ke_30 0 (by decide)).trans ((ke_28 0 (by decide)).trans ((ke_26 0 (by decide)).trans (r_24)))))
        have r_35 := (ke_33 29 (by decide)).trans (vr_32)
        refine T_virtual (as := [.int (nI 29), .int (nI 0), .int (nI 29)]) (rest := []) (b := 373) d_Mo_decode_206 rfl (jw_Mo_sub.jo (by decide)) lm_Mo_152 ji_Mo_sub js_Mo_sub hE_33.ob rfl rfl rfl (Nat.le_of_ble_eq_true rfl) (by decide) (by decide) (u_Mo_sub hE_33 (by decide) (by decide) (by decide) r_34 r_35) (fun r M_36 hq => ?_)
        obtain ⟨rfl, E_36, hE_36, vr_36, ke_36, kp_36⟩ := hq
        obtain ⟨x_36, hx_36⟩ : ∃ z : Int, z = (0 - x_32) := ⟨_, rfl⟩
        rw [← hx_36] at vr_36
        refine T_eq (pc' := 209) (L' := [(4, .int (nI ((rtG 1 x_22)))), (0, .ref 373), (1, .int (nI 12)), (2, .ref fr), (3, .int (nI at0))]) (st' := []) (M' := M_36) rfl rfl rfl rfl ?_
        refine T_aload_n (v := .ref 373) d_Mo_decode_209 rfl (Or.inr ⟨_, rfl⟩) ?_
        refine T_bipush (v := nI 28) d_Mo_decode_210 (by decide) ?_
        refine T_bipush (v := nI 28) d_Mo_decode_212 (by decide) ?_
        refine T_bipush (v := nI 27) d_Mo_decode_214 (by decide) ?_
        have r_37 := (ke_36 28 (by decide)).trans ((ke_33 28 (by decide)).trans ((ke_32 28 (by decide)).trans (r_31)))
        have r_38 := (ke_36 27 (by decide)).trans ((ke_33 27 (by decide)).trans ((ke_32 27 (by decide)).trans ((ke_30 27 (by decide)).trans ((ke_28 27 (by decide)).trans (vr_26)))))
        refine T_virtual (as := [.int (nI 28), .int (nI 28), .int (nI 27)]) (rest := []) (b := 373) d_Mo_decode_216 rfl (jw_Mo_mul.jo (by decide)) lm_Mo_163 ji_Mo_mul js_Mo_mul hE_36.ob rfl rfl rfl (Nat.le_of_ble_eq_true rfl) (by decide) (by decide) (u_Mo_mul hE_36 (by decide) (by decide) (by decide) r_37 r_38) (fun r M_39 hq => ?_)
        obtain ⟨rfl, E_39, hE_39, vr_39, ke_39, kp_39⟩ := hq
        obtain ⟨x_39, hx_39⟩ : ∃ z : Int, z = (x_28 * x_26) := ⟨_, rfl⟩
        rw [← hx_39] at vr_39
        refine T_eq (pc' := 219) (L' := [(4, .int (nI ((rtG 1 x_22)))), (0, .ref 373), (1, .int (nI 12)), (2, .ref fr), (3, .int (nI at0))]) (st' := []) (M' := M_39) rfl rfl rfl rfl ?_
        refine T_aload_n (v := .ref 373) d_Mo_decode_219 rfl (Or.inr ⟨_, rfl⟩) ?_
        refine T_bipush (v := nI 28) d_Mo_decode_220 (by decide) ?_
        refine T_bipush (v := nI 28) d_Mo_decode_222 (by decide) ?_
        refine T_bipush (v := nI 25) d_Mo_decode_224 (by decide) ?_
        have r_40 := (ke_39 25 (by decide)).trans ((ke_36 25 (by decide)).trans ((ke_33 25 (by decide)).trans ((ke_32 25 (by decide)).trans ((ke_30 25 (by decide)).trans ((ke_28 25 (by decide)).trans ((ke_26 25 (by decide)).trans ((ke_22 25 (by decide)).trans (vr_20))))))))
        refine T_virtual (as := [.int (nI 28), .int (nI 28), .int (nI 25)]) (rest := []) (b := 373) d_Mo_decode_226 rfl (jw_Mo_mul.jo (by decide)) lm_Mo_163 ji_Mo_mul js_Mo_mul hE_39.ob rfl rfl rfl (Nat.le_of_ble_eq_true rfl) (by decide) (by decide) (u_Mo_mul hE_39 (by decide) (by decide) (by decide) vr_39 r_40) (fun r M_41 hq => ?_)
        obtain ⟨rfl, E_41, hE_41, vr_41, ke_41, kp_41⟩ := hq
        obtain ⟨x_41, hx_41⟩ : ∃ z : Int, z = (x_39 * x_20) := ⟨_, rfl⟩
        rw [← hx_41] at vr_41
        refine T_eq (pc' := 229) (L' := [(4, .int (nI ((rtG 1 x_22)))), (0, .ref 373), (1, .int (nI 12)), (2, .ref fr), (3, .int (nI at0))]) (st' := []) (M' := M_41) rfl rfl rfl rfl ?_
        refine T_aload_n (v := .ref 373) d_Mo_decode_229 rfl (Or.inr ⟨_, rfl⟩) ?_
        refine T_bipush (v := nI 28) d_Mo_decode_230 (by decide) ?_
        refine T_bipush (v := nI 28) d_Mo_decode_232 (by decide) ?_
        refine T_bipush (v := nI 22) d_Mo_decode_234 (by decide) ?_
        have r_42 := (ke_41 22 (by decide)).trans ((ke_39 22 (by decide)).trans ((ke_36 22 (by decide)).trans ((ke_33 22 (by decide)).trans ((ke_32 22 (by decide)).trans ((ke_30 22 (by decide)).trans ((ke_28 22 (by decide)).trans ((ke_26 22 (by decide)).trans ((ke_22 22 (by decide)).trans ((ke_20 22 (by decide)).trans ((ke_18 22 (by decide)).trans ((ke_16 22 (by decide)).trans ((ke_14 22 (by decide)).trans (r_13)))))))))))))
        refine T_virtual (as := [.int (nI 28), .int (nI 28), .int (nI 22)]) (rest := []) (b := 373) d_Mo_decode_236 rfl (jw_Mo_mul.jo (by decide)) lm_Mo_163 ji_Mo_mul js_Mo_mul hE_41.ob rfl rfl rfl (Nat.le_of_ble_eq_true rfl) (by decide) (by decide) (u_Mo_mul hE_41 (by decide) (by decide) (by decide) vr_41 r_42) (fun r M_43 hq => ?_)
        obtain ⟨rfl, E_43, hE_43, vr_43, ke_43, kp_43⟩ := hq
        obtain ⟨x_43, hx_43⟩ : ∃ z : Int, z = (x_41 * x_8) := ⟨_, rfl⟩
        rw [← hx_43] at vr_43
        refine T_eq (pc' := 239) (L' := [(4, .int (nI ((rtG 1 x_22)))), (0, .ref 373), (1, .int (nI 12)), (2, .ref fr), (3, .int (nI at0))]) (st' := []) (M' := M_43) rfl rfl rfl rfl ?_
        refine T_aload_n (v := .ref 373) d_Mo_decode_239 rfl (Or.inr ⟨_, rfl⟩) ?_
        refine T_bipush (v := nI 30) d_Mo_decode_240 (by decide) ?_
        refine T_bipush (v := nI 29) d_Mo_decode_242 (by decide) ?_
        refine T_bipush (v := nI 28) d_Mo_decode_244 (by decide) ?_
        have r_44 := (ke_43 29 (by decide)).trans ((ke_41 29 (by decide)).trans ((ke_39 29 (by decide)).trans (vr_36)))
        refine T_virtual (as := [.int (nI 30), .int (nI 29), .int (nI 28)]) (rest := []) (b := 373) d_Mo_decode_246 rfl (jw_Mo_mul.jo (by decide)) lm_Mo_163 ji_Mo_mul js_Mo_mul hE_43.ob rfl rfl rfl (Nat.le_of_ble_eq_true rfl) (by decide) (by decide) (u_Mo_mul hE_43 (by decide) (by decide) (by decide) r_44 vr_43) (fun r M_45 hq => ?_)
        obtain ⟨rfl, E_45, hE_45, vr_45, ke_45, kp_45⟩ := hq
        obtain ⟨x_45, hx_45⟩ : ∃ z : Int, z = (x_36 * x_43) := ⟨_, rfl⟩
        rw [← hx_45] at vr_45
        refine T_eq (pc' := 249) (L' := [(4, .int (nI ((rtG 1 x_22)))), (0, .ref 373), (1, .int (nI 12)), (2, .ref fr), (3, .int (nI at0))]) (st' := []) (M' := M_45) rfl rfl rfl rfl ?_
        refine T_iload d_Mo_decode_249 rfl ?_
        refine N_if_eq (b := (rtG 1 x_22)) d_Mo_decode_251 (tgt := 272) rfl (by omega) (fun hgd => ?_) (fun hgd => ?_)
        ·
          refine T_iconst (v := nI 0) d_Mo_decode_272 (by decide) ?_
          have t0 : ph x_1 = ph (num32 (fun k => (b k : Int))) := by rw [hx_1, hcan.1]
          obtain ⟨t, hs⟩ : ∃ t, ph (num32 (fun k => (b k : Int))) = t := ⟨_, rfl⟩
          rw [hs] at t0
          have wA : ph x_8 = qA t := by rw [hx_8, ph_sub, hx_6, ph_mul, t0, ph_1]; rfl
          have wB : ph x_11 = qB t := by rw [hx_11, ph_add, hx_6, ph_mul, t0, ph_1]; rfl
          have wF : ph x_20 = qF t := by rw [hx_20, ph_sub, hx_18, ph_zs, hx_16, ph_mul, hx_14, ph_mul, hx_12, ph_mul, wA, wB, ph_cD]; unfold qF; grind -lia -linarith
          have wC : ph x_22 = qC t := by rw [hx_22, ph_mul, wF, hx_12, ph_mul, wB]; unfold qC; grind -lia -linarith
          have wR : ph x_26 = qR t := by rw [hx_26, ph_rt, wC, ph_1]; rfl
          have gi := rtG_1 1 x_22
          rw [wC, ph_1] at gi
          have e0 : ph x_32 = t * qR t * qB t + t * qR t * qB t := by rw [hx_32, ph_mul, hx_30, ph_add, hx_28, ph_mul, wR, wB, t0]; grind -lia -linarith
          have wE : ph x_36 = qE t := by unfold qE ab; rw [if_pos ((od_of e0).mpr hb_33), hx_36, ph_zs, e0]
          have wG : ph x_43 = qG t := by rw [hx_43, ph_mul, hx_41, ph_mul, hx_39, ph_mul, hx_28, ph_mul, wR, wB, wF, wA]; unfold qG; grind -lia -linarith
          have wH : ph x_45 = qE t * qG t := by rw [hx_45, ph_mul, wE, wG]
          have hno : ¬ dec (num32 (fun k => (b k : Int))) := fun c => absurd (gi.mpr (hs ▸ c.2.2.1)) (by omega)
          exact T_ret d_Mo_decode_273 rfl (by decide) (by decide) (by decide) ⟨by rw [if_neg hno], _, hE_45, fun c => absurd c hno, (KE.tr (KE.tr (KE.tr (KE.tr (KE.tr (KE.tr (KE.tr (KE.tr (KE.tr (KE.tr (KE.tr (KE.tr (KE.tr (KE.tr (KE.tr (KE.tr (KE.tr (KE.tr (KE.tr (KE.tr (KE.tr (KE.rf : KE [20, 21, 22, 23, 24, 25, 26, 27, 28, 29, 30, 50, 51, 52, 53, 54, 55, 56, 61, 62, 63, 12, 13, 14, 15] E E) (KE.mono ke_1 (by decide))) (KE.mono ke_3 (by decide))) (KE.mono ke_6 (by decide))) (KE.mono ke_8 (by decide))) (KE.mono ke_11 (by decide))) (KE.mono ke_12 (by decide))) (KE.mono ke_14 (by decide))) (KE.mono ke_16 (by decide))) (KE.mono ke_18 (by decide))) (KE.mono ke_20 (by decide))) (KE.mono ke_22 (by decide))) (KE.mono ke_26 (by decide))) (KE.mono ke_28 (by decide))) (KE.mono ke_30 (by decide))) (KE.mono ke_32 (by decide))) (KE.mono ke_33 (by decide))) (KE.mono ke_36 (by decide))) (KE.mono ke_39 (by decide))) (KE.mono ke_41 (by decide))) (KE.mono ke_43 (by decide))) (KE.mono ke_45 (by decide))), (Kp.tr (Kp.tr (Kp.tr (Kp.tr (Kp.tr (Kp.tr (Kp.tr (Kp.tr (Kp.tr (Kp.tr (Kp.tr (Kp.tr (Kp.tr (Kp.tr (Kp.tr (Kp.tr (Kp.tr (Kp.tr (Kp.tr (Kp.tr (Kp.tr (Kp.rf : Kp [390, 391, 392, 393, 394] M M) (Kp.mono kp_1 (by decide))) (Kp.mono kp_3 (by decide))) (Kp.mono kp_6 (by decide))) (Kp.mono kp_8 (by decide))) (Kp.mono kp_11 (by decide))) (Kp.mono kp_12 (by decide))) (Kp.mono kp_14 (by decide))) (Kp.mono kp_16 (by decide))) (Kp.mono kp_18 (by decide))) (Kp.mono kp_20 (by decide))) (Kp.mono kp_22 (by decide))) (Kp.mono kp_26 (by decide))) (Kp.mono kp_28 (by decide))) (Kp.mono kp_30 (by decide))) (Kp.mono kp_32 (by decide))) (Kp.mono kp_33 (by decide))) (Kp.mono kp_36 (by decide))) (Kp.mono kp_39 (by decide))) (Kp.mono kp_41 (by decide))) (Kp.mono kp_43 (by decide))) (Kp.mono kp_45 (by decide)))⟩
        ·
          refine T_aload_n (v := .ref 373) d_Mo_decode_254 rfl (Or.inr ⟨_, rfl⟩) ?_
          refine T_bipush (v := nI 30) d_Mo_decode_255 (by decide) ?_
          refine T_virtual (as := [.int (nI 30)]) (rest := []) (b := 373) d_Mo_decode_257 rfl (jw_Mo_odd.jo (by decide)) lm_Mo_174 ji_Mo_odd js_Mo_odd hE_45.ob rfl rfl rfl (Nat.le_of_ble_eq_true rfl) (by decide) (by decide) (u_Mo_odd hE_45 (by decide) vr_45) (fun r M_46 hq => ?_)
          obtain ⟨rfl, pk_46, E_46, hE_46, ke_46, kp_46⟩ := hq
          by_cases hb_46 : (x_45 % pP) % 2 = 1
          · rw [if_pos hb_46]
            refine T_eq (pc' := 260) (L' := [(4, .int (nI ((rtG 1 x_22)))), (0, .ref 373), (1, .int (nI 12)), (2, .ref fr), (3, .int (nI at0))]) (st' := [.int (nI 1)]) (M' := M_46) rfl rfl rfl rfl ?_
            refine N_if_ne_t (b := 1) d_Mo_decode_260 (tgt := 272) rfl (by omega) (by omega) ?_
            refine T_iconst (v := nI 0) d_Mo_decode_272 (by decide) ?_
            have t0 : ph x_1 = ph (num32 (fun k => (b k : Int))) := by rw [hx_1, hcan.1]
            obtain ⟨t, hs⟩ : ∃ t, ph (num32 (fun k => (b k : Int))) = t := ⟨_, rfl⟩
            rw [hs] at t0
            have wA : ph x_8 = qA t := by rw [hx_8, ph_sub, hx_6, ph_mul, t0, ph_1]; rfl
            have wB : ph x_11 = qB t := by rw [hx_11, ph_add, hx_6, ph_mul, t0, ph_1]; rfl
            have wF : ph x_20 = qF t := by rw [hx_20, ph_sub, hx_18, ph_zs, hx_16, ph_mul, hx_14, ph_mul, hx_12, ph_mul, wA, wB, ph_cD]; unfold qF; grind -lia -linarith
            have wC : ph x_22 = qC t := by rw [hx_22, ph_mul, wF, hx_12, ph_mul, wB]; unfold qC; grind -lia -linarith
            have wR : ph x_26 = qR t := by rw [hx_26, ph_rt, wC, ph_1]; rfl
            have gi := rtG_1 1 x_22
            rw [wC, ph_1] at gi
            have e0 : ph x_32 = t * qR t * qB t + t * qR t * qB t := by rw [hx_32, ph_mul, hx_30, ph_add, hx_28, ph_mul, wR, wB, t0]; grind -lia -linarith
            have wE : ph x_36 = qE t := by unfold qE ab; rw [if_pos ((od_of e0).mpr hb_33), hx_36, ph_zs, e0]
            have wG : ph x_43 = qG t := by rw [hx_43, ph_mul, hx_41, ph_mul, hx_39, ph_mul, hx_28, ph_mul, wR, wB, wF, wA]; unfold qG; grind -lia -linarith
            have wH : ph x_45 = qE t * qG t := by rw [hx_45, ph_mul, wE, wG]
            have gd : rG 1 (qC t) := gi.mp (by omega)
            have hno : ¬ dec (num32 (fun k => (b k : Int))) := fun c => c.2.2.2.1 (by rw [hs]; exact (od_of wH).mpr hb_46)
            exact T_ret d_Mo_decode_273 rfl (by decide) (by decide) (by decide) ⟨by rw [if_neg hno], _, hE_46, fun c => absurd c hno, (KE.tr (KE.tr (KE.tr (KE.tr (KE.tr (KE.tr (KE.tr (KE.tr (KE.tr (KE.tr (KE.tr (KE.tr (KE.tr (KE.tr (KE.tr (KE.tr (KE.tr (KE.tr (KE.tr (KE.tr (KE.tr (KE.tr (KE.rf : KE [20, 21, 22, 23, 24, 25, 26, 27, 28, 29, 30, 50, 51, 52, 53, 54, 55, 56, 61, 62, 63, 12, 13, 14, 15] E E) (KE.mono ke_1 (by decide))) (KE.mono ke_3 (by decide))) (KE.mono ke_6 (by decide))) (KE.mono ke_8 (by decide))) (KE.mono ke_11 (by decide))) (KE.mono ke_12 (by decide))) (KE.mono ke_14 (by decide))) (KE.mono ke_16 (by decide))) (KE.mono ke_18 (by decide))) (KE.mono ke_20 (by decide))) (KE.mono ke_22 (by decide))) (KE.mono ke_26 (by decide))) (KE.mono ke_28 (by decide))) (KE.mono ke_30 (by decide))) (KE.mono ke_32 (by decide))) (KE.mono ke_33 (by decide))) (KE.mono ke_36 (by decide))) (KE.mono ke_39 (by decide))) (KE.mono ke_41 (by decide))) (KE.mono ke_43 (by decide))) (KE.mono ke_45 (by decide))) (KE.mono ke_46 (by decide))), (Kp.tr (Kp.tr (Kp.tr (Kp.tr (Kp.tr (Kp.tr (Kp.tr (Kp.tr (Kp.tr (Kp.tr (Kp.tr (Kp.tr (Kp.tr (Kp.tr (Kp.tr (Kp.tr (Kp.tr (Kp.tr (Kp.tr (Kp.tr (Kp.tr (Kp.tr (Kp.rf : Kp [390, 391, 392, 393, 394] M M) (Kp.mono kp_1 (by decide))) (Kp.mono kp_3 (by decide))) (Kp.mono kp_6 (by decide))) (Kp.mono kp_8 (by decide))) (Kp.mono kp_11 (by decide))) (Kp.mono kp_12 (by decide))) (Kp.mono kp_14 (by decide))) (Kp.mono kp_16 (by decide))) (Kp.mono kp_18 (by decide))) (Kp.mono kp_20 (by decide))) (Kp.mono kp_22 (by decide))) (Kp.mono kp_26 (by decide))) (Kp.mono kp_28 (by decide))) (Kp.mono kp_30 (by decide))) (Kp.mono kp_32 (by decide))) (Kp.mono kp_33 (by decide))) (Kp.mono kp_36 (by decide))) (Kp.mono kp_39 (by decide))) (Kp.mono kp_41 (by decide))) (Kp.mono kp_43 (by decide))) (Kp.mono kp_45 (by decide))) (Kp.mono kp_46 (by decide)))⟩
          · rw [if_neg hb_46]
            refine T_eq (pc' := 260) (L' := [(4, .int (nI ((rtG 1 x_22)))), (0, .ref 373), (1, .int (nI 12)), (2, .ref fr), (3, .int (nI at0))]) (st' := [.int (nI 0)]) (M' := M_46) rfl rfl rfl rfl ?_
            refine N_if_ne_f (b := 0) d_Mo_decode_260 (tgt := 272) rfl (by omega) (by omega) ?_
            refine T_aload_n (v := .ref 373) d_Mo_decode_263 rfl (Or.inr ⟨_, rfl⟩) ?_
            refine T_bipush (v := nI 28) d_Mo_decode_264 (by decide) ?_
            have r_47 := (ke_46 28 (by decide)).trans ((ke_45 28 (by decide)).trans (vr_43))
            refine T_virtual (as := [.int (nI 28)]) (rest := []) (b := 373) d_Mo_decode_266 rfl (jw_Mo_isZero.jo (by decide)) lm_Mo_156 ji_Mo_isZero js_Mo_isZero hE_46.ob rfl rfl rfl (Nat.le_of_ble_eq_true rfl) (by decide) (by decide) (u_Mo_isZero hE_46 (by decide) r_47) (fun r M_48 hq => ?_)
            obtain ⟨rfl, pk_48, E_48, hE_48, ke_48, kp_48⟩ := hq
            by_cases hb_48 : x_43 % pP = 0
            · rw [if_pos hb_48]
              refine T_eq (pc' := 269) (L' := [(4, .int (nI ((rtG 1 x_22)))), (0, .ref 373), (1, .int (nI 12)), (2, .ref fr), (3, .int (nI at0))]) (st' := [.int (nI 1)]) (M' := M_48) rfl rfl rfl rfl ?_
              refine N_if_eq_f (b := 1) d_Mo_decode_269 (tgt := 274) rfl (by omega) (by omega) ?_
              refine T_iconst (v := nI 0) d_Mo_decode_272 (by decide) ?_
              have t0 : ph x_1 = ph (num32 (fun k => (b k : Int))) := by rw [hx_1, hcan.1]
              obtain ⟨t, hs⟩ : ∃ t, ph (num32 (fun k => (b k : Int))) = t := ⟨_, rfl⟩
              rw [hs] at t0
              have wA : ph x_8 = qA t := by rw [hx_8, ph_sub, hx_6, ph_mul, t0, ph_1]; rfl
              have wB : ph x_11 = qB t := by rw [hx_11, ph_add, hx_6, ph_mul, t0, ph_1]; rfl
              have wF : ph x_20 = qF t := by rw [hx_20, ph_sub, hx_18, ph_zs, hx_16, ph_mul, hx_14, ph_mul, hx_12, ph_mul, wA, wB, ph_cD]; unfold qF; grind -lia -linarith
              have wC : ph x_22 = qC t := by rw [hx_22, ph_mul, wF, hx_12, ph_mul, wB]; unfold qC; grind -lia -linarith
              have wR : ph x_26 = qR t := by rw [hx_26, ph_rt, wC, ph_1]; rfl
              have gi := rtG_1 1 x_22
              rw [wC, ph_1] at gi
              have e0 : ph x_32 = t * qR t * qB t + t * qR t * qB t := by rw [hx_32, ph_mul, hx_30, ph_add, hx_28, ph_mul, wR, wB, t0]; grind -lia -linarith
              have wE : ph x_36 = qE t := by unfold qE ab; rw [if_pos ((od_of e0).mpr hb_33), hx_36, ph_zs, e0]
              have wG : ph x_43 = qG t := by rw [hx_43, ph_mul, hx_41, ph_mul, hx_39, ph_mul, hx_28, ph_mul, wR, wB, wF, wA]; unfold qG; grind -lia -linarith
              have wH : ph x_45 = qE t * qG t := by rw [hx_45, ph_mul, wE, wG]
              have gd : rG 1 (qC t) := gi.mp (by omega)
              have hno : ¬ dec (num32 (fun k => (b k : Int))) := fun c => c.2.2.2.2 (by rw [hs, ← wG]; exact ph_z.mpr hb_48)
              exact T_ret d_Mo_decode_273 rfl (by decide) (by decide) (by decide) ⟨by rw [if_neg hno], _, hE_48, fun c => absurd c hno, (KE.tr (KE.tr (KE.tr (KE.tr (KE.tr (KE.tr (KE.tr (KE.tr (KE.tr (KE.tr (KE.tr (KE.tr (KE.tr (KE.tr (KE.tr (KE.tr (KE.tr (KE.tr (KE.tr (KE.tr (KE.tr (KE.tr (KE.tr (KE.rf : KE [20, 21, 22, 23, 24, 25, 26, 27, 28, 29, 30, 50, 51, 52, 53, 54, 55, 56, 61, 62, 63, 12, 13, 14, 15] E E) (KE.mono ke_1 (by decide))) (KE.mono ke_3 (by decide))) (KE.mono ke_6 (by decide))) (KE.mono ke_8 (by decide))) (KE.mono ke_11 (by decide))) (KE.mono ke_12 (by decide))) (KE.mono ke_14 (by decide))) (KE.mono ke_16 (by decide))) (KE.mono ke_18 (by decide))) (KE.mono ke_20 (by decide))) (KE.mono ke_22 (by decide))) (KE.mono ke_26 (by decide))) (KE.mono ke_28 (by decide))) (KE.mono ke_30 (by decide))) (KE.mono ke_32 (by decide))) (KE.mono ke_33 (by decide))) (KE.mono ke_36 (by decide))) (KE.mono ke_39 (by decide))) (KE.mono ke_41 (by decide))) (KE.mono ke_43 (by decide))) (KE.mono ke_45 (by decide))) (KE.mono ke_46 (by decide))) (KE.mono ke_48 (by decide))), (Kp.tr (Kp.tr (Kp.tr (Kp.tr (Kp.tr (Kp.tr (Kp.tr (Kp.tr (Kp.tr (Kp.tr (Kp.tr (Kp.tr (Kp.tr (Kp.tr (Kp.tr (Kp.tr (Kp.tr (Kp.tr (Kp.tr (Kp.tr (Kp.tr (Kp.tr (Kp.tr (Kp.rf : Kp [390, 391, 392, 393, 394] M M) (Kp.mono kp_1 (by decide))) (Kp.mono kp_3 (by decide))) (Kp.mono kp_6 (by decide))) (Kp.mono kp_8 (by decide))) (Kp.mono kp_11 (by decide))) (Kp.mono kp_12 (by decide))) (Kp.mono kp_14 (by decide))) (Kp.mono kp_16 (by decide))) (Kp.mono kp_18 (by decide))) (Kp.mono kp_20 (by decide))) (Kp.mono kp_22 (by decide))) (Kp.mono kp_26 (by decide))) (Kp.mono kp_28 (by decide))) (Kp.mono kp_30 (by decide))) (Kp.mono kp_32 (by decide))) (Kp.mono kp_33 (by decide))) (Kp.mono kp_36 (by decide))) (Kp.mono kp_39 (by decide))) (Kp.mono kp_41 (by decide))) (Kp.mono kp_43 (by decide))) (Kp.mono kp_45 (by decide))) (Kp.mono kp_46 (by decide))) (Kp.mono kp_48 (by decide)))⟩
            · rw [if_neg hb_48]
              refine T_eq (pc' := 269) (L' := [(4, .int (nI ((rtG 1 x_22)))), (0, .ref 373), (1, .int (nI 12)), (2, .ref fr), (3, .int (nI at0))]) (st' := [.int (nI 0)]) (M' := M_48) rfl rfl rfl rfl ?_
              refine N_if_eq_t (b := 0) d_Mo_decode_269 (tgt := 274) rfl (by omega) (by omega) ?_
              refine T_aload_n (v := .ref 373) d_Mo_decode_274 rfl (Or.inr ⟨_, rfl⟩) ?_
              refine T_iload_n d_Mo_decode_275 rfl ?_
              refine T_bipush (v := nI 29) d_Mo_decode_276 (by decide) ?_
              have r_49 := (ke_48 29 (by decide)).trans ((ke_46 29 (by decide)).trans ((ke_45 29 (by decide)).trans (r_44)))
              refine T_virtual (as := [.int (nI 12), .int (nI 29)]) (rest := []) (b := 373) d_Mo_decode_278 rfl (jw_Mo_set.jo (by decide)) lm_Mo_160 ji_Mo_set js_Mo_set hE_48.ob rfl rfl rfl (Nat.le_of_ble_eq_true rfl) (by decide) (by decide) (u_Mo_set hE_48 (by decide) (by decide) r_49) (fun r M_50 hq => ?_)
              obtain ⟨rfl, E_50, hE_50, vr_50, ke_50, kp_50⟩ := hq
              obtain ⟨x_50, hx_50⟩ : ∃ z : Int, z = x_36 := ⟨_, rfl⟩
              rw [← hx_50] at vr_50
              refine T_eq (pc' := 281) (L' := [(4, .int (nI ((rtG 1 x_22)))), (0, .ref 373), (1, .int (nI 12)), (2, .ref fr), (3, .int (nI at0))]) (st' := []) (M' := M_50) rfl rfl rfl rfl ?_
              refine T_aload_n (v := .ref 373) d_Mo_decode_281 rfl (Or.inr ⟨_, rfl⟩) ?_
              refine T_iload_n d_Mo_decode_282 rfl ?_
              refine T_iconst (v := nI 1) d_Mo_decode_283 (by decide) ?_
              refine N_iadd (a := 1) (b := 12) (c := 13) d_Mo_decode_284 rfl ?_
              refine T_bipush (v := nI 28) d_Mo_decode_285 (by decide) ?_
              have r_51 := (ke_50 28 (by decide)).trans ((ke_48 28 (by decide)).trans (r_47))
              refine T_virtual (as := [.int (nI 13), .int (nI 28)]) (rest := []) (b := 373) d_Mo_decode_287 rfl (jw_Mo_set.jo (by decide)) lm_Mo_160 ji_Mo_set js_Mo_set hE_50.ob rfl rfl rfl (Nat.le_of_ble_eq_true rfl) (by decide) (by decide) (u_Mo_set hE_50 (by decide) (by decide) r_51) (fun r M_52 hq => ?_)
              obtain ⟨rfl, E_52, hE_52, vr_52, ke_52, kp_52⟩ := hq
              obtain ⟨x_52, hx_52⟩ : ∃ z : Int, z = x_43 := ⟨_, rfl⟩
              rw [← hx_52] at vr_52
              refine T_eq (pc' := 290) (L' := [(4, .int (nI ((rtG 1 x_22)))), (0, .ref 373), (1, .int (nI 12)), (2, .ref fr), (3, .int (nI at0))]) (st' := []) (M' := M_52) rfl rfl rfl rfl ?_
              refine T_aload_n (v := .ref 373) d_Mo_decode_290 rfl (Or.inr ⟨_, rfl⟩) ?_
              refine T_iload_n d_Mo_decode_291 rfl ?_
              refine T_iconst (v := nI 2) d_Mo_decode_292 (by decide) ?_
              refine N_iadd (a := 2) (b := 12) (c := 14) d_Mo_decode_293 rfl ?_
              refine T_iconst (v := nI 1) d_Mo_decode_294 (by decide) ?_
              refine T_virtual (as := [.int (nI 14), .int (nI 1)]) (rest := []) (b := 373) d_Mo_decode_295 rfl (jw_Mo_small.jo (by decide)) lm_Mo_179 ji_Mo_small js_Mo_small hE_52.ob rfl rfl rfl (Nat.le_of_ble_eq_true rfl) (by decide) (by decide) (u_Mo_small hE_52 (by decide) (x := 1) (by decide)) (fun r M_53 hq => ?_)
              obtain ⟨rfl, E_53, hE_53, vr_53, ke_53, kp_53⟩ := hq
              obtain ⟨x_53, hx_53⟩ : ∃ z : Int, z = 1 := ⟨_, rfl⟩
              rw [← hx_53] at vr_53
              refine T_eq (pc' := 298) (L' := [(4, .int (nI ((rtG 1 x_22)))), (0, .ref 373), (1, .int (nI 12)), (2, .ref fr), (3, .int (nI at0))]) (st' := []) (M' := M_53) rfl rfl rfl rfl ?_
              refine T_aload_n (v := .ref 373) d_Mo_decode_298 rfl (Or.inr ⟨_, rfl⟩) ?_
              refine T_iload_n d_Mo_decode_299 rfl ?_
              refine T_iconst (v := nI 3) d_Mo_decode_300 (by decide) ?_
              refine N_iadd (a := 3) (b := 12) (c := 15) d_Mo_decode_301 rfl ?_
              refine T_bipush (v := nI 30) d_Mo_decode_302 (by decide) ?_
              have r_54 := (ke_53 30 (by decide)).trans ((ke_52 30 (by decide)).trans ((ke_50 30 (by decide)).trans ((ke_48 30 (by decide)).trans ((ke_46 30 (by decide)).trans (vr_45)))))
              refine T_virtual (as := [.int (nI 15), .int (nI 30)]) (rest := []) (b := 373) d_Mo_decode_304 rfl (jw_Mo_set.jo (by decide)) lm_Mo_160 ji_Mo_set js_Mo_set hE_53.ob rfl rfl rfl (Nat.le_of_ble_eq_true rfl) (by decide) (by decide) (u_Mo_set hE_53 (by decide) (by decide) r_54) (fun r M_55 hq => ?_)
              obtain ⟨rfl, E_55, hE_55, vr_55, ke_55, kp_55⟩ := hq
              obtain ⟨x_55, hx_55⟩ : ∃ z : Int, z = x_45 := ⟨_, rfl⟩
              rw [← hx_55] at vr_55
              refine T_eq (pc' := 307) (L' := [(4, .int (nI ((rtG 1 x_22)))), (0, .ref 373), (1, .int (nI 12)), (2, .ref fr), (3, .int (nI at0))]) (st' := []) (M' := M_55) rfl rfl rfl rfl ?_
              refine T_iconst (v := nI 1) d_Mo_decode_307 (by decide) ?_
              have t0 : ph x_1 = ph (num32 (fun k => (b k : Int))) := by rw [hx_1, hcan.1]
              obtain ⟨t, hs⟩ : ∃ t, ph (num32 (fun k => (b k : Int))) = t := ⟨_, rfl⟩
              rw [hs] at t0
              have wA : ph x_8 = qA t := by rw [hx_8, ph_sub, hx_6, ph_mul, t0, ph_1]; rfl
              have wB : ph x_11 = qB t := by rw [hx_11, ph_add, hx_6, ph_mul, t0, ph_1]; rfl
              have wF : ph x_20 = qF t := by rw [hx_20, ph_sub, hx_18, ph_zs, hx_16, ph_mul, hx_14, ph_mul, hx_12, ph_mul, wA, wB, ph_cD]; unfold qF; grind -lia -linarith
              have wC : ph x_22 = qC t := by rw [hx_22, ph_mul, wF, hx_12, ph_mul, wB]; unfold qC; grind -lia -linarith
              have wR : ph x_26 = qR t := by rw [hx_26, ph_rt, wC, ph_1]; rfl
              have gi := rtG_1 1 x_22
              rw [wC, ph_1] at gi
              have e0 : ph x_32 = t * qR t * qB t + t * qR t * qB t := by rw [hx_32, ph_mul, hx_30, ph_add, hx_28, ph_mul, wR, wB, t0]; grind -lia -linarith
              have wE : ph x_36 = qE t := by unfold qE ab; rw [if_pos ((od_of e0).mpr hb_33), hx_36, ph_zs, e0]
              have wG : ph x_43 = qG t := by rw [hx_43, ph_mul, hx_41, ph_mul, hx_39, ph_mul, hx_28, ph_mul, wR, wB, wF, wA]; unfold qG; grind -lia -linarith
              have wH : ph x_45 = qE t * qG t := by rw [hx_45, ph_mul, wE, wG]
              have gd : rG 1 (qC t) := gi.mp (by omega)
              have hy : dec (num32 (fun k => (b k : Int))) := ⟨hcan.2, by rw [hs, ← t0]; exact fun z => hb_3 (od_ph.mp z), by rw [hs]; exact ⟨gd, fun z => hb_46 ((od_of wH).mp z), by rw [← wG]; exact fun z => hb_48 (ph_z.mp z)⟩⟩
              have r_56 := (ke_55 12 (by decide)).trans ((ke_53 12 (by decide)).trans ((ke_52 12 (by decide)).trans (vr_50)))
              have r_57 := (ke_55 13 (by decide)).trans ((ke_53 13 (by decide)).trans (vr_52))
              have r_58 := (ke_55 14 (by decide)).trans (vr_53)
              exact T_ret d_Mo_decode_308 rfl (by decide) (by decide) (by decide) ⟨by rw [if_pos hy], _, hE_55, fun _ => ⟨_, _, _, ⟨r_56, r_57, (r_58).trans hx_53, vr_55⟩, by rw [hx_50, wE, hs], by rw [hx_52, wG, hs], by rw [hx_55, wH, hs]⟩, (KE.tr (KE.tr (KE.tr (KE.tr (KE.tr (KE.tr (KE.tr (KE.tr (KE.tr (KE.tr (KE.tr (KE.tr (KE.tr (KE.tr (KE.tr (KE.tr (KE.tr (KE.tr (KE.tr (KE.tr (KE.tr (KE.tr (KE.tr (KE.tr (KE.tr (KE.tr (KE.tr (KE.rf : KE [20, 21, 22, 23, 24, 25, 26, 27, 28, 29, 30, 50, 51, 52, 53, 54, 55, 56, 61, 62, 63, 12, 13, 14, 15] E E) (KE.mono ke_1 (by decide))) (KE.mono ke_3 (by decide))) (KE.mono ke_6 (by decide))) (KE.mono ke_8 (by decide))) (KE.mono ke_11 (by decide))) (KE.mono ke_12 (by decide))) (KE.mono ke_14 (by decide))) (KE.mono ke_16 (by decide))) (KE.mono ke_18 (by decide))) (KE.mono ke_20 (by decide))) (KE.mono ke_22 (by decide))) (KE.mono ke_26 (by decide))) (KE.mono ke_28 (by decide))) (KE.mono ke_30 (by decide))) (KE.mono ke_32 (by decide))) (KE.mono ke_33 (by decide))) (KE.mono ke_36 (by decide))) (KE.mono ke_39 (by decide))) (KE.mono ke_41 (by decide))) (KE.mono ke_43 (by decide))) (KE.mono ke_45 (by decide))) (KE.mono ke_46 (by decide))) (KE.mono ke_48 (by decide))) (KE.mono ke_50 (by decide))) (KE.mono ke_52 (by decide))) (KE.mono ke_53 (by decide))) (KE.mono ke_55 (by decide))), (Kp.tr (Kp.tr (Kp.tr (Kp.tr (Kp.tr (Kp.tr (Kp.tr (Kp.tr (Kp.tr (Kp.tr (Kp.tr (Kp.tr (Kp.tr (Kp.tr (Kp.tr (Kp.tr (Kp.tr (Kp.tr (Kp.tr (Kp.tr (Kp.tr (Kp.tr (Kp.tr (Kp.tr (Kp.tr (Kp.tr (Kp.tr (Kp.rf : Kp [390, 391, 392, 393, 394] M M) (Kp.mono kp_1 (by decide))) (Kp.mono kp_3 (by decide))) (Kp.mono kp_6 (by decide))) (Kp.mono kp_8 (by decide))) (Kp.mono kp_11 (by decide))) (Kp.mono kp_12 (by decide))) (Kp.mono kp_14 (by decide))) (Kp.mono kp_16 (by decide))) (Kp.mono kp_18 (by decide))) (Kp.mono kp_20 (by decide))) (Kp.mono kp_22 (by decide))) (Kp.mono kp_26 (by decide))) (Kp.mono kp_28 (by decide))) (Kp.mono kp_30 (by decide))) (Kp.mono kp_32 (by decide))) (Kp.mono kp_33 (by decide))) (Kp.mono kp_36 (by decide))) (Kp.mono kp_39 (by decide))) (Kp.mono kp_41 (by decide))) (Kp.mono kp_43 (by decide))) (Kp.mono kp_45 (by decide))) (Kp.mono kp_46 (by decide))) (Kp.mono kp_48 (by decide))) (Kp.mono kp_50 (by decide))) (Kp.mono kp_52 (by decide))) (Kp.mono kp_53 (by decide))) (Kp.mono kp_55 (by decide)))⟩
      · rw [if_neg hb_33]
        refine T_eq (pc' := 197) (L' := [(4, .int (nI ((rtG 1 x_22)))), (0, .ref 373), (1, .int (nI 12)), (2, .ref fr), (3, .int (nI at0))]) (st' := [.int (nI 0)]) (M' := M_33) rfl rfl rfl rfl ?_
        refine N_if_eq_t (b := 0) d_Mo_decode_197 (tgt := 209) rfl (by omega) (by omega) ?_
        refine T_aload_n (v := .ref 373) d_Mo_decode_209 rfl (Or.inr ⟨_, rfl⟩) ?_
        refine T_bipush (v := nI 28) d_Mo_decode_210 (by decide) ?_
        refine T_bipush (v := nI 28) d_Mo_decode_212 (by decide) ?_
        refine T_bipush (v := nI 27) d_Mo_decode_214 (by decide) ?_
        have r_59 := (ke_33 28 (by decide)).trans ((ke_32 28 (by decide)).trans (r_31))
        have r_60 := (ke_33 27 (by decide)).trans ((ke_32 27 (by decide)).trans ((ke_30 27 (by decide)).trans ((ke_28 27 (by decide)).trans (vr_26))))
        refine T_virtual (as := [.int (nI 28), .int (nI 28), .int (nI 27)]) (rest := []) (b := 373) d_Mo_decode_216 rfl (jw_Mo_mul.jo (by decide)) lm_Mo_163 ji_Mo_mul js_Mo_mul hE_33.ob rfl rfl rfl (Nat.le_of_ble_eq_true rfl) (by decide) (by decide) (u_Mo_mul hE_33 (by decide) (by decide) (by decide) r_59 r_60) (fun r M_61 hq => ?_)
        obtain ⟨rfl, E_61, hE_61, vr_61, ke_61, kp_61⟩ := hq
        obtain ⟨x_61, hx_61⟩ : ∃ z : Int, z = (x_28 * x_26) := ⟨_, rfl⟩
        rw [← hx_61] at vr_61
        refine T_eq (pc' := 219) (L' := [(4, .int (nI ((rtG 1 x_22)))), (0, .ref 373), (1, .int (nI 12)), (2, .ref fr), (3, .int (nI at0))]) (st' := []) (M' := M_61) rfl rfl rfl rfl ?_
        refine T_aload_n (v := .ref 373) d_Mo_decode_219 rfl (Or.inr ⟨_, rfl⟩) ?_
        refine T_bipush (v := nI 28) d_Mo_decode_220 (by decide) ?_
        refine T_bipush (v := nI 28) d_Mo_decode_222 (by decide) ?_
        refine T_bipush (v := nI 25) d_Mo_decode_224 (by decide) ?_
        have r_62 := (ke_61 25 (by decide)).trans ((ke_33 25 (by decide)).trans ((ke_32 25 (by decide)).trans ((ke_30 25 (by decide)).trans ((ke_28 25 (by decide)).trans ((ke_26 25 (by decide)).trans ((ke_22 25 (by decide)).trans (vr_20)))))))
        refine T_virtual (as := [.int (nI 28), .int (nI 28), .int (nI 25)]) (rest := []) (b := 373) d_Mo_decode_226 rfl (jw_Mo_mul.jo (by decide)) lm_Mo_163 ji_Mo_mul js_Mo_mul hE_61.ob rfl rfl rfl (Nat.le_of_ble_eq_true rfl) (by decide) (by decide) (u_Mo_mul hE_61 (by decide) (by decide) (by decide) vr_61 r_62) (fun r M_63 hq => ?_)
        obtain ⟨rfl, E_63, hE_63, vr_63, ke_63, kp_63⟩ := hq
        obtain ⟨x_63, hx_63⟩ : ∃ z : Int, z = (x_61 * x_20) := ⟨_, rfl⟩
        rw [← hx_63] at vr_63
        refine T_eq (pc' := 229) (L' := [(4, .int (nI ((rtG 1 x_22)))), (0, .ref 373), (1, .int (nI 12)), (2, .ref fr), (3, .int (nI at0))]) (st' := []) (M' := M_63) rfl rfl rfl rfl ?_
        refine T_aload_n (v := .ref 373) d_Mo_decode_229 rfl (Or.inr ⟨_, rfl⟩) ?_
        refine T_bipush (v := nI 28) d_Mo_decode_230 (by decide) ?_
        refine T_bipush (v := nI 28) d_Mo_decode_232 (by decide) ?_
        refine T_bipush (v := nI 22) d_Mo_decode_234 (by decide) ?_
        have r_64 := (ke_63 22 (by decide)).trans ((ke_61 22 (by decide)).trans ((ke_33 22 (by decide)).trans ((ke_32 22 (by decide)).trans ((ke_30 22 (by decide)).trans ((ke_28 22 (by decide)).trans ((ke_26 22 (by decide)).trans ((ke_22 22 (by decide)).trans ((ke_20 22 (by decide)).trans ((ke_18 22 (by decide)).trans ((ke_16 22 (by decide)).trans ((ke_14 22 (by decide)).trans (r_13))))))))))))
        refine T_virtual (as := [.int (nI 28), .int (nI 28), .int (nI 22)]) (rest := []) (b := 373) d_Mo_decode_236 rfl (jw_Mo_mul.jo (by decide)) lm_Mo_163 ji_Mo_mul js_Mo_mul hE_63.ob rfl rfl rfl (Nat.le_of_ble_eq_true rfl) (by decide) (by decide) (u_Mo_mul hE_63 (by decide) (by decide) (by decide) vr_63 r_64) (fun r M_65 hq => ?_)
        obtain ⟨rfl, E_65, hE_65, vr_65, ke_65, kp_65⟩ := hq
        obtain ⟨x_65, hx_65⟩ : ∃ z : Int, z = (x_63 * x_8) := ⟨_, rfl⟩
        rw [← hx_65] at vr_65
        refine T_eq (pc' := 239) (L' := [(4, .int (nI ((rtG 1 x_22)))), (0, .ref 373), (1, .int (nI 12)), (2, .ref fr), (3, .int (nI at0))]) (st' := []) (M' := M_65) rfl rfl rfl rfl ?_
        refine T_aload_n (v := .ref 373) d_Mo_decode_239 rfl (Or.inr ⟨_, rfl⟩) ?_
        refine T_bipush (v := nI 30) d_Mo_decode_240 (by decide) ?_
        refine T_bipush (v := nI 29) d_Mo_decode_242 (by decide) ?_
        refine T_bipush (v := nI 28) d_Mo_decode_244 (by decide) ?_
        have r_66 := (ke_65 29 (by decide)).trans ((ke_63 29 (by decide)).trans ((ke_61 29 (by decide)).trans ((ke_33 29 (by decide)).trans (vr_32))))
        refine T_virtual (as := [.int (nI 30), .int (nI 29), .int (nI 28)]) (rest := []) (b := 373) d_Mo_decode_246 rfl (jw_Mo_mul.jo (by decide)) lm_Mo_163 ji_Mo_mul js_Mo_mul hE_65.ob rfl rfl rfl (Nat.le_of_ble_eq_true rfl) (by decide) (by decide) (u_Mo_mul hE_65 (by decide) (by decide) (by decide) r_66 vr_65) (fun r M_67 hq => ?_)
        obtain ⟨rfl, E_67, hE_67, vr_67, ke_67, kp_67⟩ := hq
        obtain ⟨x_67, hx_67⟩ : ∃ z : Int, z = (x_32 * x_65) := ⟨_, rfl⟩
        rw [← hx_67] at vr_67
        refine T_eq (pc' := 249) (L' := [(4, .int (nI ((rtG 1 x_22)))), (0, .ref 373), (1, .int (nI 12)), (2, .ref fr), (3, .int (nI at0))]) (st' := []) (M' := M_67) rfl rfl rfl rfl ?_
        refine T_iload d_Mo_decode_249 rfl ?_
        refine N_if_eq (b := (rtG 1 x_22)) d_Mo_decode_251 (tgt := 272) rfl (by omega) (fun hgd => ?_) (fun hgd => ?_)
        ·
          refine T_iconst (v := nI 0) d_Mo_decode_272 (by decide) ?_
          have t0 : ph x_1 = ph (num32 (fun k => (b k : Int))) := by rw [hx_1, hcan.1]
          obtain ⟨t, hs⟩ : ∃ t, ph (num32 (fun k => (b k : Int))) = t := ⟨_, rfl⟩
          rw [hs] at t0
          have wA : ph x_8 = qA t := by rw [hx_8, ph_sub, hx_6, ph_mul, t0, ph_1]; rfl
          have wB : ph x_11 = qB t := by rw [hx_11, ph_add, hx_6, ph_mul, t0, ph_1]; rfl
          have wF : ph x_20 = qF t := by rw [hx_20, ph_sub, hx_18, ph_zs, hx_16, ph_mul, hx_14, ph_mul, hx_12, ph_mul, wA, wB, ph_cD]; unfold qF; grind -lia -linarith
          have wC : ph x_22 = qC t := by rw [hx_22, ph_mul, wF, hx_12, ph_mul, wB]; unfold qC; grind -lia -linarith
          have wR : ph x_26 = qR t := by rw [hx_26, ph_rt, wC, ph_1]; rfl
          have gi := rtG_1 1 x_22
          rw [wC, ph_1] at gi
          have e0 : ph x_32 = t * qR t * qB t + t * qR t * qB t := by rw [hx_32, ph_mul, hx_30, ph_add, hx_28, ph_mul, wR, wB, t0]; grind -lia -linarith
          have wE : ph x_32 = qE t := by unfold qE ab; rw [if_neg (fun z => hb_33 ((od_of e0).mp z)), e0]
          have wG : ph x_65 = qG t := by rw [hx_65, ph_mul, hx_63, ph_mul, hx_61, ph_mul, hx_28, ph_mul, wR, wB, wF, wA]; unfold qG; grind -lia -linarith
          have wH : ph x_67 = qE t * qG t := by rw [hx_67, ph_mul, wE, wG]
          have hno : ¬ dec (num32 (fun k => (b k : Int))) := fun c => absurd (gi.mpr (hs ▸ c.2.2.1)) (by omega)
          exact T_ret d_Mo_decode_273 rfl (by decide) (by decide) (by decide) ⟨by rw [if_neg hno], _, hE_67, fun c => absurd c hno, (KE.tr (KE.tr (KE.tr (KE.tr (KE.tr (KE.tr (KE.tr (KE.tr (KE.tr (KE.tr (KE.tr (KE.tr (KE.tr (KE.tr (KE.tr (KE.tr (KE.tr (KE.tr (KE.tr (KE.tr (KE.rf : KE [20, 21, 22, 23, 24, 25, 26, 27, 28, 29, 30, 50, 51, 52, 53, 54, 55, 56, 61, 62, 63, 12, 13, 14, 15] E E) (KE.mono ke_1 (by decide))) (KE.mono ke_3 (by decide))) (KE.mono ke_6 (by decide))) (KE.mono ke_8 (by decide))) (KE.mono ke_11 (by decide))) (KE.mono ke_12 (by decide))) (KE.mono ke_14 (by decide))) (KE.mono ke_16 (by decide))) (KE.mono ke_18 (by decide))) (KE.mono ke_20 (by decide))) (KE.mono ke_22 (by decide))) (KE.mono ke_26 (by decide))) (KE.mono ke_28 (by decide))) (KE.mono ke_30 (by decide))) (KE.mono ke_32 (by decide))) (KE.mono ke_33 (by decide))) (KE.mono ke_61 (by decide))) (KE.mono ke_63 (by decide))) (KE.mono ke_65 (by decide))) (KE.mono ke_67 (by decide))), (Kp.tr (Kp.tr (Kp.tr (Kp.tr (Kp.tr (Kp.tr (Kp.tr (Kp.tr (Kp.tr (Kp.tr (Kp.tr (Kp.tr (Kp.tr (Kp.tr (Kp.tr (Kp.tr (Kp.tr (Kp.tr (Kp.tr (Kp.tr (Kp.rf : Kp [390, 391, 392, 393, 394] M M) (Kp.mono kp_1 (by decide))) (Kp.mono kp_3 (by decide))) (Kp.mono kp_6 (by decide))) (Kp.mono kp_8 (by decide))) (Kp.mono kp_11 (by decide))) (Kp.mono kp_12 (by decide))) (Kp.mono kp_14 (by decide))) (Kp.mono kp_16 (by decide))) (Kp.mono kp_18 (by decide))) (Kp.mono kp_20 (by decide))) (Kp.mono kp_22 (by decide))) (Kp.mono kp_26 (by decide))) (Kp.mono kp_28 (by decide))) (Kp.mono kp_30 (by decide))) (Kp.mono kp_32 (by decide))) (Kp.mono kp_33 (by decide))) (Kp.mono kp_61 (by decide))) (Kp.mono kp_63 (by decide))) (Kp.mono kp_65 (by decide))) (Kp.mono kp_67 (by decide)))⟩
        ·
          refine T_aload_n (v := .ref 373) d_Mo_decode_254 rfl (Or.inr ⟨_, rfl⟩) ?_
          refine T_bipush (v := nI 30) d_Mo_decode_255 (by decide) ?_
          refine T_virtual (as := [.int (nI 30)]) (rest := []) (b := 373) d_Mo_decode_257 rfl (jw_Mo_odd.jo (by decide)) lm_Mo_174 ji_Mo_odd js_Mo_odd hE_67.ob rfl rfl rfl (Nat.le_of_ble_eq_true rfl) (by decide) (by decide) (u_Mo_odd hE_67 (by decide) vr_67) (fun r M_68 hq => ?_)
          obtain ⟨rfl, pk_68, E_68, hE_68, ke_68, kp_68⟩ := hq
          by_cases hb_68 : (x_67 % pP) % 2 = 1
          · rw [if_pos hb_68]
            refine T_eq (pc' := 260) (L' := [(4, .int (nI ((rtG 1 x_22)))), (0, .ref 373), (1, .int (nI 12)), (2, .ref fr), (3, .int (nI at0))]) (st' := [.int (nI 1)]) (M' := M_68) rfl rfl rfl rfl ?_
            refine N_if_ne_t (b := 1) d_Mo_decode_260 (tgt := 272) rfl (by omega) (by omega) ?_
            refine T_iconst (v := nI 0) d_Mo_decode_272 (by decide) ?_
            have t0 : ph x_1 = ph (num32 (fun k => (b k : Int))) := by rw [hx_1, hcan.1]
            obtain ⟨t, hs⟩ : ∃ t, ph (num32 (fun k => (b k : Int))) = t := ⟨_, rfl⟩
            rw [hs] at t0
            have wA : ph x_8 = qA t := by rw [hx_8, ph_sub, hx_6, ph_mul, t0, ph_1]; rfl
            have wB : ph x_11 = qB t := by rw [hx_11, ph_add, hx_6, ph_mul, t0, ph_1]; rfl
            have wF : ph x_20 = qF t := by rw [hx_20, ph_sub, hx_18, ph_zs, hx_16, ph_mul, hx_14, ph_mul, hx_12, ph_mul, wA, wB, ph_cD]; unfold qF; grind -lia -linarith
            have wC : ph x_22 = qC t := by rw [hx_22, ph_mul, wF, hx_12, ph_mul, wB]; unfold qC; grind -lia -linarith
            have wR : ph x_26 = qR t := by rw [hx_26, ph_rt, wC, ph_1]; rfl
            have gi := rtG_1 1 x_22
            rw [wC, ph_1] at gi
            have e0 : ph x_32 = t * qR t * qB t + t * qR t * qB t := by rw [hx_32, ph_mul, hx_30, ph_add, hx_28, ph_mul, wR, wB, t0]; grind -lia -linarith
            have wE : ph x_32 = qE t := by unfold qE ab; rw [if_neg (fun z => hb_33 ((od_of e0).mp z)), e0]
            have wG : ph x_65 = qG t := by rw [hx_65, ph_mul, hx_63, ph_mul, hx_61, ph_mul, hx_28, ph_mul, wR, wB, wF, wA]; unfold qG; grind -lia -linarith
            have wH : ph x_67 = qE t * qG t := by rw [hx_67, ph_mul, wE, wG]
            have gd : rG 1 (qC t) := gi.mp (by omega)
            have hno : ¬ dec (num32 (fun k => (b k : Int))) := fun c => c.2.2.2.1 (by rw [hs]; exact (od_of wH).mpr hb_68)
            exact T_ret d_Mo_decode_273 rfl (by decide) (by decide) (by decide) ⟨by rw [if_neg hno], _, hE_68, fun c => absurd c hno, (KE.tr (KE.tr (KE.tr (KE.tr (KE.tr (KE.tr (KE.tr (KE.tr (KE.tr (KE.tr (KE.tr (KE.tr (KE.tr (KE.tr (KE.tr (KE.tr (KE.tr (KE.tr (KE.tr (KE.tr (KE.tr (KE.rf : KE [20, 21, 22, 23, 24, 25, 26, 27, 28, 29, 30, 50, 51, 52, 53, 54, 55, 56, 61, 62, 63, 12, 13, 14, 15] E E) (KE.mono ke_1 (by decide))) (KE.mono ke_3 (by decide))) (KE.mono ke_6 (by decide))) (KE.mono ke_8 (by decide))) (KE.mono ke_11 (by decide))) (KE.mono ke_12 (by decide))) (KE.mono ke_14 (by decide))) (KE.mono ke_16 (by decide))) (KE.mono ke_18 (by decide))) (KE.mono ke_20 (by decide))) (KE.mono ke_22 (by decide))) (KE.mono ke_26 (by decide))) (KE.mono ke_28 (by decide))) (KE.mono ke_30 (by decide))) (KE.mono ke_32 (by decide))) (KE.mono ke_33 (by decide))) (KE.mono ke_61 (by decide))) (KE.mono ke_63 (by decide))) (KE.mono ke_65 (by decide))) (KE.mono ke_67 (by decide))) (KE.mono ke_68 (by decide))), (Kp.tr (Kp.tr (Kp.tr (Kp.tr (Kp.tr (Kp.tr (Kp.tr (Kp.tr (Kp.tr (Kp.tr (Kp.tr (Kp.tr (Kp.tr (Kp.tr (Kp.tr (Kp.tr (Kp.tr (Kp.tr (Kp.tr (Kp.tr (Kp.tr (Kp.rf : Kp [390, 391, 392, 393, 394] M M) (Kp.mono kp_1 (by decide))) (Kp.mono kp_3 (by decide))) (Kp.mono kp_6 (by decide))) (Kp.mono kp_8 (by decide))) (Kp.mono kp_11 (by decide))) (Kp.mono kp_12 (by decide))) (Kp.mono kp_14 (by decide))) (Kp.mono kp_16 (by decide))) (Kp.mono kp_18 (by decide))) (Kp.mono kp_20 (by decide))) (Kp.mono kp_22 (by decide))) (Kp.mono kp_26 (by decide))) (Kp.mono kp_28 (by decide))) (Kp.mono kp_30 (by decide))) (Kp.mono kp_32 (by decide))) (Kp.mono kp_33 (by decide))) (Kp.mono kp_61 (by decide))) (Kp.mono kp_63 (by decide))) (Kp.mono kp_65 (by decide))) (Kp.mono kp_67 (by decide))) (Kp.mono kp_68 (by decide)))⟩
          · rw [if_neg hb_68]
            refine T_eq (pc' := 260) (L' := [(4, .int (nI ((rtG 1 x_22)))), (0, .ref 373), (1, .int (nI 12)), (2, .ref fr), (3, .int (nI at0))]) (st' := [.int (nI 0)]) (M' := M_68) rfl rfl rfl rfl ?_
            refine N_if_ne_f (b := 0) d_Mo_decode_260 (tgt := 272) rfl (by omega) (by omega) ?_
            refine T_aload_n (v := .ref 373) d_Mo_decode_263 rfl (Or.inr ⟨_, rfl⟩) ?_
            refine T_bipush (v := nI 28) d_Mo_decode_264 (by decide) ?_
            have r_69 := (ke_68 28 (by decide)).trans ((ke_67 28 (by decide)).trans (vr_65))
            refine T_virtual (as := [.int (nI 28)]) (rest := []) (b := 373) d_Mo_decode_266 rfl (jw_Mo_isZero.jo (by decide)) lm_Mo_156 ji_Mo_isZero js_Mo_isZero hE_68.ob rfl rfl rfl (Nat.le_of_ble_eq_true rfl) (by decide) (by decide) (u_Mo_isZero hE_68 (by decide) r_69) (fun r M_70 hq => ?_)
            obtain ⟨rfl, pk_70, E_70, hE_70, ke_70, kp_70⟩ := hq
            by_cases hb_70 : x_65 % pP = 0
            · rw [if_pos hb_70]
              refine T_eq (pc' := 269) (L' := [(4, .int (nI ((rtG 1 x_22)))), (0, .ref 373), (1, .int (nI 12)), (2, .ref fr), (3, .int (nI at0))]) (st' := [.int (nI 1)]) (M' := M_70) rfl rfl rfl rfl ?_
              refine N_if_eq_f (b := 1) d_Mo_decode_269 (tgt := 274) rfl (by omega) (by omega) ?_
              refine T_iconst (v := nI 0) d_Mo_decode_272 (by decide) ?_
              have t0 : ph x_1 = ph (num32 (fun k => (b k : Int))) := by rw [hx_1, hcan.1]
              obtain ⟨t, hs⟩ : ∃ t, ph (num32 (fun k => (b k : Int))) = t := ⟨_, rfl⟩
              rw [hs] at t0
              have wA : ph x_8 = qA t := by rw [hx_8, ph_sub, hx_6, ph_mul, t0, ph_1]; rfl
              have wB : ph x_11 = qB t := by rw [hx_11, ph_add, hx_6, ph_mul, t0, ph_1]; rfl
              have wF : ph x_20 = qF t := by rw [hx_20, ph_sub, hx_18, ph_zs, hx_16, ph_mul, hx_14, ph_mul, hx_12, ph_mul, wA, wB, ph_cD]; unfold qF; grind -lia -linarith
              have wC : ph x_22 = qC t := by rw [hx_22, ph_mul, wF, hx_12, ph_mul, wB]; unfold qC; grind -lia -linarith
              have wR : ph x_26 = qR t := by rw [hx_26, ph_rt, wC, ph_1]; rfl
              have gi := rtG_1 1 x_22
              rw [wC, ph_1] at gi
              have e0 : ph x_32 = t * qR t * qB t + t * qR t * qB t := by rw [hx_32, ph_mul, hx_30, ph_add, hx_28, ph_mul, wR, wB, t0]; grind -lia -linarith
              have wE : ph x_32 = qE t := by unfold qE ab; rw [if_neg (fun z => hb_33 ((od_of e0).mp z)), e0]
              have wG : ph x_65 = qG t := by rw [hx_65, ph_mul, hx_63, ph_mul, hx_61, ph_mul, hx_28, ph_mul, wR, wB, wF, wA]; unfold qG; grind -lia -linarith
              have wH : ph x_67 = qE t * qG t := by rw [hx_67, ph_mul, wE, wG]
              have gd : rG 1 (qC t) := gi.mp (by omega)
              have hno : ¬ dec (num32 (fun k => (b k : Int))) := fun c => c.2.2.2.2 (by rw [hs, ← wG]; exact ph_z.mpr hb_70)
              exact T_ret d_Mo_decode_273 rfl (by decide) (by decide) (by decide) ⟨by rw [if_neg hno], _, hE_70, fun c => absurd c hno, (KE.tr (KE.tr (KE.tr (KE.tr (KE.tr (KE.tr (KE.tr (KE.tr (KE.tr (KE.tr (KE.tr (KE.tr (KE.tr (KE.tr (KE.tr (KE.tr (KE.tr (KE.tr (KE.tr (KE.tr (KE.tr (KE.tr (KE.rf : KE [20, 21, 22, 23, 24, 25, 26, 27, 28, 29, 30, 50, 51, 52, 53, 54, 55, 56, 61, 62, 63, 12, 13, 14, 15] E E) (KE.mono ke_1 (by decide))) (KE.mono ke_3 (by decide))) (KE.mono ke_6 (by decide))) (KE.mono ke_8 (by decide))) (KE.mono ke_11 (by decide))) (KE.mono ke_12 (by decide))) (KE.mono ke_14 (by decide))) (KE.mono ke_16 (by decide))) (KE.mono ke_18 (by decide))) (KE.mono ke_20 (by decide))) (KE.mono ke_22 (by decide))) (KE.mono ke_26 (by decide))) (KE.mono ke_28 (by decide))) (KE.mono ke_30 (by decide))) (KE.mono ke_32 (by decide))) (KE.mono ke_33 (by decide))) (KE.mono ke_61 (by decide))) (KE.mono ke_63 (by decide))) (KE.mono ke_65 (by decide))) (KE.mono ke_67 (by decide))) (KE.mono ke_68 (by decide))) (KE.mono ke_70 (by decide))), (Kp.tr (Kp.tr (Kp.tr (Kp.tr (Kp.tr (Kp.tr (Kp.tr (Kp.tr (Kp.tr (Kp.tr (Kp.tr (Kp.tr (Kp.tr (Kp.tr (Kp.tr (Kp.tr (Kp.tr (Kp.tr (Kp.tr (Kp.tr (Kp.tr (Kp.tr (Kp.rf : Kp [390, 391, 392, 393, 394] M M) (Kp.mono kp_1 (by decide))) (Kp.mono kp_3 (by decide))) (Kp.mono kp_6 (by decide))) (Kp.mono kp_8 (by decide))) (Kp.mono kp_11 (by decide))) (Kp.mono kp_12 (by decide))) (Kp.mono kp_14 (by decide))) (Kp.mono kp_16 (by decide))) (Kp.mono kp_18 (by decide))) (Kp.mono kp_20 (by decide))) (Kp.mono kp_22 (by decide))) (Kp.mono kp_26 (by decide))) (Kp.mono kp_28 (by decide))) (Kp.mono kp_30 (by decide))) (Kp.mono kp_32 (by decide))) (Kp.mono kp_33 (by decide))) (Kp.mono kp_61 (by decide))) (Kp.mono kp_63 (by decide))) (Kp.mono kp_65 (by decide))) (Kp.mono kp_67 (by decide))) (Kp.mono kp_68 (by decide))) (Kp.mono kp_70 (by decide)))⟩
            · rw [if_neg hb_70]
              refine T_eq (pc' := 269) (L' := [(4, .int (nI ((rtG 1 x_22)))), (0, .ref 373), (1, .int (nI 12)), (2, .ref fr), (3, .int (nI at0))]) (st' := [.int (nI 0)]) (M' := M_70) rfl rfl rfl rfl ?_
              refine N_if_eq_t (b := 0) d_Mo_decode_269 (tgt := 274) rfl (by omega) (by omega) ?_
              refine T_aload_n (v := .ref 373) d_Mo_decode_274 rfl (Or.inr ⟨_, rfl⟩) ?_
              refine T_iload_n d_Mo_decode_275 rfl ?_
              refine T_bipush (v := nI 29) d_Mo_decode_276 (by decide) ?_
              have r_71 := (ke_70 29 (by decide)).trans ((ke_68 29 (by decide)).trans ((ke_67 29 (by decide)).trans (r_66)))
              refine T_virtual (as := [.int (nI 12), .int (nI 29)]) (rest := []) (b := 373) d_Mo_decode_278 rfl (jw_Mo_set.jo (by decide)) lm_Mo_160 ji_Mo_set js_Mo_set hE_70.ob rfl rfl rfl (Nat.le_of_ble_eq_true rfl) (by decide) (by decide) (u_Mo_set hE_70 (by decide) (by decide) r_71) (fun r M_72 hq => ?_)
              obtain ⟨rfl, E_72, hE_72, vr_72, ke_72, kp_72⟩ := hq
              obtain ⟨x_72, hx_72⟩ : ∃ z : Int, z = x_32 := ⟨_, rfl⟩
              rw [← hx_72] at vr_72
              refine T_eq (pc' := 281) (L' := [(4, .int (nI ((rtG 1 x_22)))), (0, .ref 373), (1, .int (nI 12)), (2, .ref fr), (3, .int (nI at0))]) (st' := []) (M' := M_72) rfl rfl rfl rfl ?_
              refine T_aload_n (v := .ref 373) d_Mo_decode_281 rfl (Or.inr ⟨_, rfl⟩) ?_
              refine T_iload_n d_Mo_decode_282 rfl ?_
              refine T_iconst (v := nI 1) d_Mo_decode_283 (by decide) ?_
              refine N_iadd (a := 1) (b := 12) (c := 13) d_Mo_decode_284 rfl ?_
              refine T_bipush (v := nI 28) d_Mo_decode_285 (by decide) ?_
              have r_73 := (ke_72 28 (by decide)).trans ((ke_70 28 (by decide)).trans (r_69))
              refine T_virtual (as := [.int (nI 13), .int (nI 28)]) (rest := []) (b := 373) d_Mo_decode_287 rfl (jw_Mo_set.jo (by decide)) lm_Mo_160 ji_Mo_set js_Mo_set hE_72.ob rfl rfl rfl (Nat.le_of_ble_eq_true rfl) (by decide) (by decide) (u_Mo_set hE_72 (by decide) (by decide) r_73) (fun r M_74 hq => ?_)
              obtain ⟨rfl, E_74, hE_74, vr_74, ke_74, kp_74⟩ := hq
              obtain ⟨x_74, hx_74⟩ : ∃ z : Int, z = x_65 := ⟨_, rfl⟩
              rw [← hx_74] at vr_74
              refine T_eq (pc' := 290) (L' := [(4, .int (nI ((rtG 1 x_22)))), (0, .ref 373), (1, .int (nI 12)), (2, .ref fr), (3, .int (nI at0))]) (st' := []) (M' := M_74) rfl rfl rfl rfl ?_
              refine T_aload_n (v := .ref 373) d_Mo_decode_290 rfl (Or.inr ⟨_, rfl⟩) ?_
              refine T_iload_n d_Mo_decode_291 rfl ?_
              refine T_iconst (v := nI 2) d_Mo_decode_292 (by decide) ?_
              refine N_iadd (a := 2) (b := 12) (c := 14) d_Mo_decode_293 rfl ?_
              refine T_iconst (v := nI 1) d_Mo_decode_294 (by decide) ?_
              refine T_virtual (as := [.int (nI 14), .int (nI 1)]) (rest := []) (b := 373) d_Mo_decode_295 rfl (jw_Mo_small.jo (by decide)) lm_Mo_179 ji_Mo_small js_Mo_small hE_74.ob rfl rfl rfl (Nat.le_of_ble_eq_true rfl) (by decide) (by decide) (u_Mo_small hE_74 (by decide) (x := 1) (by decide)) (fun r M_75 hq => ?_)
              obtain ⟨rfl, E_75, hE_75, vr_75, ke_75, kp_75⟩ := hq
              obtain ⟨x_75, hx_75⟩ : ∃ z : Int, z = 1 := ⟨_, rfl⟩
              rw [← hx_75] at vr_75
              refine T_eq (pc' := 298) (L' := [(4, .int (nI ((rtG 1 x_22)))), (0, .ref 373), (1, .int (nI 12)), (2, .ref fr), (3, .int (nI at0))]) (st' := []) (M' := M_75) rfl rfl rfl rfl ?_
              refine T_aload_n (v := .ref 373) d_Mo_decode_298 rfl (Or.inr ⟨_, rfl⟩) ?_
              refine T_iload_n d_Mo_decode_299 rfl ?_
              refine T_iconst (v := nI 3) d_Mo_decode_300 (by decide) ?_
              refine N_iadd (a := 3) (b := 12) (c := 15) d_Mo_decode_301 rfl ?_
              refine T_bipush (v := nI 30) d_Mo_decode_302 (by decide) ?_
              have r_76 := (ke_75 30 (by decide)).trans ((ke_74 30 (by decide)).trans ((ke_72 30 (by decide)).trans ((ke_70 30 (by decide)).trans ((ke_68 30 (by decide)).trans (vr_67)))))
              refine T_virtual (as := [.int (nI 15), .int (nI 30)]) (rest := []) (b := 373) d_Mo_decode_304 rfl (jw_Mo_set.jo (by decide)) lm_Mo_160 ji_Mo_set js_Mo_set hE_75.ob rfl rfl rfl (Nat.le_of_ble_eq_true rfl) (by decide) (by decide) (u_Mo_set hE_75 (by decide) (by decide) r_76) (fun r M_77 hq => ?_)
              obtain ⟨rfl, E_77, hE_77, vr_77, ke_77, kp_77⟩ := hq
              obtain ⟨x_77, hx_77⟩ : ∃ z : Int, z = x_67 := ⟨_, rfl⟩
              rw [← hx_77] at vr_77
              refine T_eq (pc' := 307) (L' := [(4, .int (nI ((rtG 1 x_22)))), (0, .ref 373), (1, .int (nI 12)), (2, .ref fr), (3, .int (nI at0))]) (st' := []) (M' := M_77) rfl rfl rfl rfl ?_
              refine T_iconst (v := nI 1) d_Mo_decode_307 (by decide) ?_
              have t0 : ph x_1 = ph (num32 (fun k => (b k : Int))) := by rw [hx_1, hcan.1]
              obtain ⟨t, hs⟩ : ∃ t, ph (num32 (fun k => (b k : Int))) = t := ⟨_, rfl⟩
              rw [hs] at t0
              have wA : ph x_8 = qA t := by rw [hx_8, ph_sub, hx_6, ph_mul, t0, ph_1]; rfl
              have wB : ph x_11 = qB t := by rw [hx_11, ph_add, hx_6, ph_mul, t0, ph_1]; rfl
              have wF : ph x_20 = qF t := by rw [hx_20, ph_sub, hx_18, ph_zs, hx_16, ph_mul, hx_14, ph_mul, hx_12, ph_mul, wA, wB, ph_cD]; unfold qF; grind -lia -linarith
              have wC : ph x_22 = qC t := by rw [hx_22, ph_mul, wF, hx_12, ph_mul, wB]; unfold qC; grind -lia -linarith
              have wR : ph x_26 = qR t := by rw [hx_26, ph_rt, wC, ph_1]; rfl
              have gi := rtG_1 1 x_22
              rw [wC, ph_1] at gi
              have e0 : ph x_32 = t * qR t * qB t + t * qR t * qB t := by rw [hx_32, ph_mul, hx_30, ph_add, hx_28, ph_mul, wR, wB, t0]; grind -lia -linarith
              have wE : ph x_32 = qE t := by unfold qE ab; rw [if_neg (fun z => hb_33 ((od_of e0).mp z)), e0]
              have wG : ph x_65 = qG t := by rw [hx_65, ph_mul, hx_63, ph_mul, hx_61, ph_mul, hx_28, ph_mul, wR, wB, wF, wA]; unfold qG; grind -lia -linarith
              have wH : ph x_67 = qE t * qG t := by rw [hx_67, ph_mul, wE, wG]
              have gd : rG 1 (qC t) := gi.mp (by omega)
              have hy : dec (num32 (fun k => (b k : Int))) := ⟨hcan.2, by rw [hs, ← t0]; exact fun z => hb_3 (od_ph.mp z), by rw [hs]; exact ⟨gd, fun z => hb_68 ((od_of wH).mp z), by rw [← wG]; exact fun z => hb_70 (ph_z.mp z)⟩⟩
              have r_78 := (ke_77 12 (by decide)).trans ((ke_75 12 (by decide)).trans ((ke_74 12 (by decide)).trans (vr_72)))
              have r_79 := (ke_77 13 (by decide)).trans ((ke_75 13 (by decide)).trans (vr_74))
              have r_80 := (ke_77 14 (by decide)).trans (vr_75)
              exact T_ret d_Mo_decode_308 rfl (by decide) (by decide) (by decide) ⟨by rw [if_pos hy], _, hE_77, fun _ => ⟨_, _, _, ⟨r_78, r_79, (r_80).trans hx_75, vr_77⟩, by rw [hx_72, wE, hs], by rw [hx_74, wG, hs], by rw [hx_77, wH, hs]⟩, (KE.tr (KE.tr (KE.tr (KE.tr (KE.tr (KE.tr (KE.tr (KE.tr (KE.tr (KE.tr (KE.tr (KE.tr (KE.tr (KE.tr (KE.tr (KE.tr (KE.tr (KE.tr (KE.tr (KE.tr (KE.tr (KE.tr (KE.tr (KE.tr (KE.tr (KE.tr (KE.rf : KE [20, 21, 22, 23, 24, 25, 26, 27, 28, 29, 30, 50, 51, 52, 53, 54, 55, 56, 61, 62, 63, 12, 13, 14, 15] E E) (KE.mono ke_1 (by decide))) (KE.mono ke_3 (by decide))) (KE.mono ke_6 (by decide))) (KE.mono ke_8 (by decide))) (KE.mono ke_11 (by decide))) (KE.mono ke_12 (by decide))) (KE.mono ke_14 (by decide))) (KE.mono ke_16 (by decide))) (KE.mono ke_18 (by decide))) (KE.mono ke_20 (by decide))) (KE.mono ke_22 (by decide))) (KE.mono ke_26 (by decide))) (KE.mono ke_28 (by decide))) (KE.mono ke_30 (by decide))) (KE.mono ke_32 (by decide))) (KE.mono ke_33 (by decide))) (KE.mono ke_61 (by decide))) (KE.mono ke_63 (by decide))) (KE.mono ke_65 (by decide))) (KE.mono ke_67 (by decide))) (KE.mono ke_68 (by decide))) (KE.mono ke_70 (by decide))) (KE.mono ke_72 (by decide))) (KE.mono ke_74 (by decide))) (KE.mono ke_75 (by decide))) (KE.mono ke_77 (by decide))), (Kp.tr (Kp.tr (Kp.tr (Kp.tr (Kp.tr (Kp.tr (Kp.tr (Kp.tr (Kp.tr (Kp.tr (Kp.tr (Kp.tr (Kp.tr (Kp.tr (Kp.tr (Kp.tr (Kp.tr (Kp.tr (Kp.tr (Kp.tr (Kp.tr (Kp.tr (Kp.tr (Kp.tr (Kp.tr (Kp.tr (Kp.rf : Kp [390, 391, 392, 393, 394] M M) (Kp.mono kp_1 (by decide))) (Kp.mono kp_3 (by decide))) (Kp.mono kp_6 (by decide))) (Kp.mono kp_8 (by decide))) (Kp.mono kp_11 (by decide))) (Kp.mono kp_12 (by decide))) (Kp.mono kp_14 (by decide))) (Kp.mono kp_16 (by decide))) (Kp.mono kp_18 (by decide))) (Kp.mono kp_20 (by decide))) (Kp.mono kp_22 (by decide))) (Kp.mono kp_26 (by decide))) (Kp.mono kp_28 (by decide))) (Kp.mono kp_30 (by decide))) (Kp.mono kp_32 (by decide))) (Kp.mono kp_33 (by decide))) (Kp.mono kp_61 (by decide))) (Kp.mono kp_63 (by decide))) (Kp.mono kp_65 (by decide))) (Kp.mono kp_67 (by decide))) (Kp.mono kp_68 (by decide))) (Kp.mono kp_70 (by decide))) (Kp.mono kp_72 (by decide))) (Kp.mono kp_74 (by decide))) (Kp.mono kp_75 (by decide))) (Kp.mono kp_77 (by decide)))⟩

set_option maxRecDepth 100000 in
set_option maxHeartbeats 4000000 in
theorem c_Mo_isSession (G : GX) (v : Nat → Int32) (s : Nat) (b_s : s < 4) : CS G mi_Mo_isSession [.int (nI s)] v (fun r v' => r = some (.int (nI 1)) ∧ v' = v) := by
  refine CS.of (by decide) (Nat.le_of_ble_eq_true rfl) ?_
  generalize hQe : (fun (r : Option Value) (v' : Nat → Int32) => r = some (.int (nI 1)) ∧ v' = v) = Q
  have hQ : Q (some (.int (nI 1))) v := by rw [← hQe]; exact ⟨rfl, rfl⟩
  clear hQe
  show ST G mi_Mo_isSession 0 [(0, .int (nI s))] [] v 0 0 Q
  refine ST.lift (fun _ _ k => T_iload_n d_Mo_isSession_0 rfl k) ?_
  refine S_if_ltN d_Mo_isSession_1 rfl (by omega) (fun c => by first | exact absurd c (by omega) | exact c.elim | exact absurd c (by decide) | exact absurd (by assumption) c | exact absurd c (by assumption)) (fun _ => ?_)
  refine ST.lift (fun _ _ k => T_iload_n d_Mo_isSession_4 rfl k) ?_
  refine ST.lift (fun _ _ k => T_iconst (v := nI 4) d_Mo_isSession_5 (by decide) k) ?_
  refine S_icmp_geN d_Mo_isSession_6 rfl (by omega) (by omega) (fun c => by first | exact absurd c (by omega) | exact c.elim | exact absurd c (by decide) | exact absurd (by assumption) c | exact absurd c (by assumption)) (fun _ => ?_)
  refine ST.lift (fun _ _ k => T_iconst (v := nI 1) d_Mo_isSession_9 (by decide) k) ?_
  refine ST.lift (fun _ _ k => T_goto (tgt := 14) d_Mo_isSession_10 rfl k) ?_
  refine S_topi (y := nI 1) (congrArg nI (by omega)) ?_
  exact S_ret d_Mo_isSession_14 rfl rfl (by decide) (by decide) hQ
set_option maxRecDepth 100000 in
set_option maxHeartbeats 4000000 in
theorem c_Mo_isSession_neg (G : GX) (v : Nat → Int32) (x : Int32) (hx : x < 0) : CS G mi_Mo_isSession [.int x] v (fun r v' => r = some (.int (nI 0)) ∧ v' = v) := by
  refine CS.of (by decide) (Nat.le_of_ble_eq_true rfl) ?_
  generalize hQe : (fun (r : Option Value) (v' : Nat → Int32) => r = some (.int (nI 0)) ∧ v' = v) = Q
  have hQ : Q (some (.int (nI 0))) v := by rw [← hQe]; exact ⟨rfl, rfl⟩
  clear hQe
  show ST G mi_Mo_isSession 0 [(0, .int x)] [] v 0 0 Q
  refine ST.lift (fun _ _ k => T_iload_n d_Mo_isSession_0 rfl k) ?_
  refine S_if_lt d_Mo_isSession_1 rfl (fun _ => ?_) (fun c => by first | exact absurd c (by omega) | exact c.elim | exact absurd c (by decide) | exact absurd (by assumption) c | exact absurd c (by assumption))
  refine ST.lift (fun _ _ k => T_iconst (v := nI 0) d_Mo_isSession_13 (by decide) k) ?_
  refine S_topi (y := nI 0) (congrArg nI (by omega)) ?_
  exact S_ret d_Mo_isSession_14 rfl rfl (by decide) (by decide) hQ
set_option maxRecDepth 100000 in
set_option maxHeartbeats 4000000 in
theorem c_Mo_isSession_big (G : GX) (v : Nat → Int32) (x : Int32) (h0 : ¬ x < 0) (hx : nI 4 ≤ x) : CS G mi_Mo_isSession [.int x] v (fun r v' => r = some (.int (nI 0)) ∧ v' = v) := by
  refine CS.of (by decide) (Nat.le_of_ble_eq_true rfl) ?_
  generalize hQe : (fun (r : Option Value) (v' : Nat → Int32) => r = some (.int (nI 0)) ∧ v' = v) = Q
  have hQ : Q (some (.int (nI 0))) v := by rw [← hQe]; exact ⟨rfl, rfl⟩
  clear hQe
  show ST G mi_Mo_isSession 0 [(0, .int x)] [] v 0 0 Q
  refine ST.lift (fun _ _ k => T_iload_n d_Mo_isSession_0 rfl k) ?_
  refine S_if_lt d_Mo_isSession_1 rfl (fun c => by first | exact absurd c (by omega) | exact c.elim | exact absurd c (by decide) | exact absurd (by assumption) c | exact absurd c (by assumption)) (fun _ => ?_)
  refine ST.lift (fun _ _ k => T_iload_n d_Mo_isSession_4 rfl k) ?_
  refine ST.lift (fun _ _ k => T_iconst (v := nI 4) d_Mo_isSession_5 (by decide) k) ?_
  refine S_icmp_ge d_Mo_isSession_6 rfl (fun _ => ?_) (fun c => by first | exact absurd c (by omega) | exact c.elim | exact absurd c (by decide) | exact absurd (by assumption) c | exact absurd c (by assumption))
  refine ST.lift (fun _ _ k => T_iconst (v := nI 0) d_Mo_isSession_13 (by decide) k) ?_
  refine S_topi (y := nI 0) (congrArg nI (by omega)) ?_
  exact S_ret d_Mo_isSession_14 rfl rfl (by decide) (by decide) hQ
set_option maxRecDepth 100000 in
set_option maxHeartbeats 4000000 in
theorem c_Mo_coded_x (G : GX) (v : Nat → Int32) (p : Nat) (b_p : p ≤ 60) (hv : okv v) : CS G mi_Mo_coded [.ref 373, .int (nI p)] v (fun r v' => r = some (.int (nI 32)) ∧ okv v' ∧ mdf [74] v v') := by
  refine CS.of (by decide) (Nat.le_of_ble_eq_true rfl) ?_
  generalize hQe : (fun (r : Option Value) (v' : Nat → Int32) => r = some (.int (nI 32)) ∧ okv v' ∧ mdf [74] v v') = Q
  have hQ : ∀ u, okv u → mdf [74] v u → Q (some (.int (nI 32))) u := by rw [← hQe]; exact fun u h1 h2  => ⟨rfl, h1, h2⟩
  clear hQe
  have hm : mdf [74] v v := mdf.rf
  show ST G mi_Mo_coded 0 [(0, .ref 373), (1, .int (nI p))] [] v 0 0 Q
  refine ST.lift (fun _ _ k => T_aload_n (v := .ref 373) d_Mo_coded_0 rfl (Or.inr ⟨_, rfl⟩) k) ?_
  refine ST.lift (fun _ _ k => T_iload_n d_Mo_coded_1 rfl k) ?_
  refine S_virtual (as := [.int (nI p)]) (rest := []) (b := 373) d_Mo_coded_2 rfl (jw_Mo_code.jo (by decide)) lm_Mo_293 ji_Mo_code js_Mo_code (w373 _) rfl rfl rfl (Nat.le_of_ble_eq_true rfl) (by decide) (by decide) (c_Mo_code G v p (by omega)) (fun r v' hq => ?_)
  rw [hq.1, hq.2]
  clear hq r v'
  show ST G mi_Mo_coded 5 [(0, .ref 373), (1, .int (nI p))] [] v 0 0 _
  refine ST.lift (fun _ _ k => T_iconst (v := nI 0) d_Mo_coded_5 (by decide) k) ?_
  refine ST.lift (fun _ _ k => T_istore_n (L' := [(2, .int (nI 0)), (0, .ref 373), (1, .int (nI p))]) d_Mo_coded_6 (by decide) rfl k) ?_
  have lp4 : ∀ (n2 k1 : Nat), 32 - k1 = n2 → 0 ≤ k1 ∧ k1 ≤ 0 + 32 → ST G mi_Mo_coded 7 [(2, .int (nI k1)), (0, .ref 373), (1, .int (nI p))] [] v 0 0 Q := by
    intro n2
    induction n2 using Nat.strongRecOn with
    | _ n2 ih3 =>
      intro k1 h5 h6
      refine ST.lift (fun _ _ k => T_iload_n d_Mo_coded_7 rfl k) ?_
      refine ST.lift (fun _ _ k => T_bipush (v := nI 32) d_Mo_coded_8 (by decide) k) ?_
      refine S_icmp_geN d_Mo_coded_10 rfl (by omega) (by omega) (fun c7 => ?_) (fun c7 => ?_)
      · refine ST.lift (fun _ _ k => T_aload_n (v := .ref 373) d_Mo_coded_31 rfl (Or.inr ⟨_, rfl⟩) k) ?_
        refine ST.lift (fun _ _ k => T_bipush (v := nI 32) d_Mo_coded_32 (by decide) k) ?_
        refine S_putfield (v' := va_up v 74 (nI 32)) d_Mo_coded_34 (fp_Mo_350 _) (w373 _) (Nat.le_of_ble_eq_true rfl) ⟨rfl, rfl⟩ (u373_45 _ _) ?_
        have hv10 := hv.up (j := 74) (c := 64) (k := 32) (by decide) (by omega)
        have hm11 := hm.go (mdf.up (v := v) (j := 74) (x := (nI 32))) (by intro i hi; simp only [List.mem_cons, List.not_mem_nil, or_false] at hi ⊢ <;> omega)
        have e_u9 : (va_up v 74 (nI 32)) 74 = (nI 32) := by simp [va_up]
        generalize va_up v 74 (nI 32) = u9 at hv10 hm11 e_u9 ⊢
        refine ST.lift (fun _ _ k => T_bipush (v := nI 32) d_Mo_coded_37 (by decide) k) ?_
        refine S_topi (y := nI 32) (congrArg nI (by omega)) ?_
        exact S_ret d_Mo_coded_39 rfl rfl (by decide) (by decide) (hQ _ hv10 hm11)
      · refine ST.lift (fun _ _ k => T_aload_n (v := .ref 373) d_Mo_coded_13 rfl (Or.inr ⟨_, rfl⟩) k) ?_
        refine S_getfield d_Mo_coded_14 fg_Mo_347 (w373 _) rfl ?_
        refine ST.lift (fun _ _ k => T_iload_n d_Mo_coded_17 rfl k) ?_
        refine ST.lift (fun _ _ k => T_aload_n (v := .ref 373) d_Mo_coded_18 rfl (Or.inr ⟨_, rfl⟩) k) ?_
        refine S_getfield d_Mo_coded_19 fg_Mo_146 (w373 _) rfl ?_
        refine ST.lift (fun _ _ k => T_iload_n d_Mo_coded_22 rfl k) ?_
        refine S_iaload d_Mo_coded_23 a394 (vp_in_nI (by omega) (by omega)) (fun z12 => ?_)
        refine S_iastore d_Mo_coded_24 (by decide) a410 (vp_in_nI (by omega) (by omega)) ?_
        refine S_iincN (a := k1) (b := 1) (L' := [(2, .int (nI (k1 + 1))), (0, .ref 373), (1, .int (nI p))]) d_Mo_coded_25 (by decide) rfl rfl rfl ?_
        refine ST.lift (fun _ _ k => T_goto (tgt := 7) d_Mo_coded_28 rfl k) ?_
        exact ih3 (32 - (k1 + 1)) (by omega) (k1 + 1)  rfl (by omega)
  exact lp4 _ 0  rfl (by omega)
set_option maxRecDepth 100000 in
set_option maxHeartbeats 4000000 in
theorem c_Mo_feed_yes (G : GX) (v : Nat → Int32) (x1 : Int32) (x2 : Int32) (x3 : Int32) (x4 : Int32) (x5 : Int32) (t : Nat) (e73 : v 73 = nI t) (ht : t + 20 ≤ 200) (hv : okv v) : CS G mi_Mo_feed [.ref 373, .int x1, .int x2, .int x3, .int x4, .int x5] v (fun r v' => r = some (.int (nI 1)) ∧ okv v' ∧ mdf [66, 73] v v' ∧ v' 73 = nI (t + 20) ∧ v' 66 = nI 0) := by
  refine CS.of (by decide) (Nat.le_of_ble_eq_true rfl) ?_
  generalize hQe : (fun (r : Option Value) (v' : Nat → Int32) => r = some (.int (nI 1)) ∧ okv v' ∧ mdf [66, 73] v v' ∧ v' 73 = nI (t + 20) ∧ v' 66 = nI 0) = Q
  have hQ : ∀ u, okv u → mdf [66, 73] v u → u 73 = nI (t + 20) → u 66 = nI 0 → Q (some (.int (nI 1))) u := by rw [← hQe]; exact fun u h1 h2 f0 f1 => ⟨rfl, h1, h2, f0, f1⟩
  clear hQe
  have hm : mdf [66, 73] v v := mdf.rf
  show ST G mi_Mo_feed 0 [(0, .ref 373), (1, .int x1), (2, .int x2), (3, .int x3), (4, .int x4), (5, .int x5)] [] v 0 0 Q
  refine ST.lift (fun _ _ k => T_aload_n (v := .ref 373) d_Mo_feed_0 rfl (Or.inr ⟨_, rfl⟩) k) ?_
  refine ST.lift (fun _ _ k => T_iconst (v := nI 0) d_Mo_feed_1 (by decide) k) ?_
  refine S_putfield (v' := va_up v 66 (nI 0)) d_Mo_feed_2 (fp_Mo_316 _) (w373 _) (Nat.le_of_ble_eq_true rfl) ⟨rfl, rfl⟩ (u373_0 _ _) ?_
  have hv2 := hv.off (j := 66) (x := (nI 0)) (by decide)
  have hm3 := hm.go (mdf.up (v := v) (j := 66) (x := (nI 0))) (by intro i hi; simp only [List.mem_cons, List.not_mem_nil, or_false] at hi ⊢ <;> omega)
  have e_u1 : (va_up v 66 (nI 0)) 66 = (nI 0) := by simp [va_up]
  have e4 : (va_up v 66 (nI 0)) 73 = nI t := by simp only [va_up]; exact e73
  generalize va_up v 66 (nI 0) = u1 at hv2 hm3 e_u1 e4 ⊢
  refine ST.lift (fun _ _ k => T_aload_n (v := .ref 373) d_Mo_feed_5 rfl (Or.inr ⟨_, rfl⟩) k) ?_
  refine S_getfield d_Mo_feed_6 fg_Mo_344 (w373 _) rfl ?_
  refine S_topi (y := nI t) (e4) ?_
  refine ST.lift (fun _ _ k => T_bipush (v := nI 20) d_Mo_feed_9 (by decide) k) ?_
  refine S_iaddN d_Mo_feed_11 ?_
  refine ST.lift (fun _ _ k => T_sipush (v := nI 200) d_Mo_feed_12 (by decide) k) ?_
  refine S_icmp_leN d_Mo_feed_15 rfl (by omega) (by omega) (fun c5 => ?_) (fun c5 => ?_)
  · refine ST.lift (fun _ _ k => T_iconst (v := nI 0) d_Mo_feed_20 (by decide) k) ?_
    refine ST.lift (fun _ _ k => T_istore (L' := [(6, .int (nI 0)), (0, .ref 373), (1, .int x1), (2, .int x2), (3, .int x3), (4, .int x4), (5, .int x5)]) d_Mo_feed_21 (by decide) rfl k) ?_
    refine ST.lift (fun _ _ k => T_iload d_Mo_feed_23 rfl k) ?_
    refine ST.lift (fun _ _ k => T_bipush (v := nI 20) d_Mo_feed_25 (by decide) k) ?_
    refine S_icmp_geN d_Mo_feed_27 rfl (by omega) (by omega) (fun c => by first | exact absurd c (by omega) | exact c.elim | exact absurd c (by decide) | exact absurd (by assumption) c | exact absurd c (by assumption)) (fun _ => ?_)
    refine ST.lift (fun _ _ k => T_iload_n d_Mo_feed_30 rfl k) ?_
    refine ST.lift (fun _ _ k => T_istore (L' := [(7, .int x1), (6, .int (nI 0)), (0, .ref 373), (1, .int x1), (2, .int x2), (3, .int x3), (4, .int x4), (5, .int x5)]) d_Mo_feed_31 (by decide) rfl k) ?_
    refine ST.lift (fun _ _ k => T_iload d_Mo_feed_33 rfl k) ?_
    refine ST.lift (fun _ _ k => T_iconst (v := nI 4) d_Mo_feed_35 (by decide) k) ?_
    refine S_icmp_ltN d_Mo_feed_36 rfl (by omega) (by omega) (fun _ => ?_) (fun c => by first | exact absurd c (by omega) | exact c.elim | exact absurd c (by decide) | exact absurd (by assumption) c | exact absurd c (by assumption))
    refine ST.lift (fun _ _ k => T_iload d_Mo_feed_42 rfl k) ?_
    refine ST.lift (fun _ _ k => T_bipush (v := nI 8) d_Mo_feed_44 (by decide) k) ?_
    refine S_icmp_ltN d_Mo_feed_46 rfl (by omega) (by omega) (fun _ => ?_) (fun c => by first | exact absurd c (by omega) | exact c.elim | exact absurd c (by decide) | exact absurd (by assumption) c | exact absurd c (by assumption))
    refine ST.lift (fun _ _ k => T_iload d_Mo_feed_52 rfl k) ?_
    refine ST.lift (fun _ _ k => T_bipush (v := nI 12) d_Mo_feed_54 (by decide) k) ?_
    refine S_icmp_ltN d_Mo_feed_56 rfl (by omega) (by omega) (fun _ => ?_) (fun c => by first | exact absurd c (by omega) | exact c.elim | exact absurd c (by decide) | exact absurd (by assumption) c | exact absurd c (by assumption))
    refine ST.lift (fun _ _ k => T_iload d_Mo_feed_63 rfl k) ?_
    refine ST.lift (fun _ _ k => T_bipush (v := nI 16) d_Mo_feed_65 (by decide) k) ?_
    refine S_icmp_ltN d_Mo_feed_67 rfl (by omega) (by omega) (fun _ => ?_) (fun c => by first | exact absurd c (by omega) | exact c.elim | exact absurd c (by decide) | exact absurd (by assumption) c | exact absurd c (by assumption))
    refine ST.lift (fun _ _ k => T_aload_n (v := .ref 373) d_Mo_feed_74 rfl (Or.inr ⟨_, rfl⟩) k) ?_
    refine S_getfield d_Mo_feed_75 fg_Mo_341 (w373 _) rfl ?_
    refine ST.lift (fun _ _ k => T_aload_n (v := .ref 373) d_Mo_feed_78 rfl (Or.inr ⟨_, rfl⟩) k) ?_
    refine S_getfield d_Mo_feed_79 fg_Mo_344 (w373 _) rfl ?_
    refine S_topi (y := nI t) (e4) ?_
    refine ST.lift (fun _ _ k => T_iload d_Mo_feed_82 rfl k) ?_
    refine ST.lift (fun _ _ k => T_bipush (v := nI 24) d_Mo_feed_84 (by decide) k) ?_
    refine ST.lift (fun _ _ k => T_bipush (v := nI 8) d_Mo_feed_86 (by decide) k) ?_
    refine ST.lift (fun _ _ k => T_iload d_Mo_feed_88 rfl k) ?_
    refine ST.lift (fun _ _ k => T_iconst (v := nI 3) d_Mo_feed_90 (by decide) k) ?_
    refine S_iandN 2 d_Mo_feed_91 (by omega) (by decide) (by decide) ?_
    refine S_topi (y := nI 0) (by decide) ?_
    refine S_imulN d_Mo_feed_92 ?_
    refine S_topi (y := nI 0) (by decide) ?_
    refine S_isubN d_Mo_feed_93 (by omega) ?_
    refine S_topi (y := nI 24) (by decide) ?_
    refine ST.lift (fun _ _ k => T_ishr d_Mo_feed_94 k) (S_anyi fun z6 => ?_)
    refine ST.lift (fun _ _ k => T_sipush (v := nI 255) d_Mo_feed_95 (by decide) k) ?_
    refine S_iandM 8 d_Mo_feed_98 (by decide) (by decide) (fun j7 hj7 => ?_)
    simp only [Nat.reducePow] at hj7
    refine S_iastore d_Mo_feed_99 (by decide) a409 (vp_in_nI (by omega) (by omega)) ?_
    refine ST.lift (fun _ _ k => T_aload_n (v := .ref 373) d_Mo_feed_100 rfl (Or.inr ⟨_, rfl⟩) k) ?_
    refine ST.lift (fun _ _ k => T_dup d_Mo_feed_101 rfl k) ?_
    refine S_getfield d_Mo_feed_102 fg_Mo_344 (w373 _) rfl ?_
    refine S_topi (y := nI t) (e4) ?_
    refine ST.lift (fun _ _ k => T_iconst (v := nI 1) d_Mo_feed_105 (by decide) k) ?_
    refine S_iaddN d_Mo_feed_106 ?_
    refine S_putfield (v' := va_up u1 73 (nI (t + 1))) d_Mo_feed_107 (fp_Mo_344 _) (w373 _) (Nat.le_of_ble_eq_true rfl) ⟨rfl, rfl⟩ (u373_43 _ _) ?_
    have hv9 := hv2.up (j := 73) (c := 200) (k := (t + 1)) (by decide) (by omega)
    have hm10 := hm3.go (mdf.up (v := u1) (j := 73) (x := (nI (t + 1)))) (by intro i hi; simp only [List.mem_cons, List.not_mem_nil, or_false] at hi ⊢ <;> omega)
    have e_u8 : (va_up u1 73 (nI (t + 1))) 73 = (nI (t + 1)) := by simp [va_up]
    have e11 : (va_up u1 73 (nI (t + 1))) 66 = nI 0 := by simp only [va_up]; exact e_u1
    generalize va_up u1 73 (nI (t + 1)) = u8 at hv9 hm10 e_u8 e11 ⊢
    refine S_iincN (a := 0) (b := 1) (L' := [(6, .int (nI 1)), (7, .int x1), (0, .ref 373), (1, .int x1), (2, .int x2), (3, .int x3), (4, .int x4), (5, .int x5)]) d_Mo_feed_110 (by decide) rfl rfl rfl ?_
    refine ST.lift (fun _ _ k => T_goto (tgt := 23) d_Mo_feed_113 rfl k) ?_
    refine ST.lift (fun _ _ k => T_iload d_Mo_feed_23 rfl k) ?_
    refine ST.lift (fun _ _ k => T_bipush (v := nI 20) d_Mo_feed_25 (by decide) k) ?_
    refine S_icmp_geN d_Mo_feed_27 rfl (by omega) (by omega) (fun c => by first | exact absurd c (by omega) | exact c.elim | exact absurd c (by decide) | exact absurd (by assumption) c | exact absurd c (by assumption)) (fun _ => ?_)
    refine ST.lift (fun _ _ k => T_iload_n d_Mo_feed_30 rfl k) ?_
    refine ST.lift (fun _ _ k => T_istore (L' := [(7, .int x1), (6, .int (nI 1)), (0, .ref 373), (1, .int x1), (2, .int x2), (3, .int x3), (4, .int x4), (5, .int x5)]) d_Mo_feed_31 (by decide) rfl k) ?_
    refine ST.lift (fun _ _ k => T_iload d_Mo_feed_33 rfl k) ?_
    refine ST.lift (fun _ _ k => T_iconst (v := nI 4) d_Mo_feed_35 (by decide) k) ?_
    refine S_icmp_ltN d_Mo_feed_36 rfl (by omega) (by omega) (fun _ => ?_) (fun c => by first | exact absurd c (by omega) | exact c.elim | exact absurd c (by decide) | exact absurd (by assumption) c | exact absurd c (by assumption))
    refine ST.lift (fun _ _ k => T_iload d_Mo_feed_42 rfl k) ?_
    refine ST.lift (fun _ _ k => T_bipush (v := nI 8) d_Mo_feed_44 (by decide) k) ?_
    refine S_icmp_ltN d_Mo_feed_46 rfl (by omega) (by omega) (fun _ => ?_) (fun c => by first | exact absurd c (by omega) | exact c.elim | exact absurd c (by decide) | exact absurd (by assumption) c | exact absurd c (by assumption))
    refine ST.lift (fun _ _ k => T_iload d_Mo_feed_52 rfl k) ?_
    refine ST.lift (fun _ _ k => T_bipush (v := nI 12) d_Mo_feed_54 (by decide) k) ?_
    refine S_icmp_ltN d_Mo_feed_56 rfl (by omega) (by omega) (fun _ => ?_) (fun c => by first | exact absurd c (by omega) | exact c.elim | exact absurd c (by decide) | exact absurd (by assumption) c | exact absurd c (by assumption))
    refine ST.lift (fun _ _ k => T_iload d_Mo_feed_63 rfl k) ?_
    refine ST.lift (fun _ _ k => T_bipush (v := nI 16) d_Mo_feed_65 (by decide) k) ?_
    refine S_icmp_ltN d_Mo_feed_67 rfl (by omega) (by omega) (fun _ => ?_) (fun c => by first | exact absurd c (by omega) | exact c.elim | exact absurd c (by decide) | exact absurd (by assumption) c | exact absurd c (by assumption))
    refine ST.lift (fun _ _ k => T_aload_n (v := .ref 373) d_Mo_feed_74 rfl (Or.inr ⟨_, rfl⟩) k) ?_
    refine S_getfield d_Mo_feed_75 fg_Mo_341 (w373 _) rfl ?_
    refine ST.lift (fun _ _ k => T_aload_n (v := .ref 373) d_Mo_feed_78 rfl (Or.inr ⟨_, rfl⟩) k) ?_
    refine S_getfield d_Mo_feed_79 fg_Mo_344 (w373 _) rfl ?_
    refine S_topi (y := nI (t + 1)) (e_u8) ?_
    refine ST.lift (fun _ _ k => T_iload d_Mo_feed_82 rfl k) ?_
    refine ST.lift (fun _ _ k => T_bipush (v := nI 24) d_Mo_feed_84 (by decide) k) ?_
    refine ST.lift (fun _ _ k => T_bipush (v := nI 8) d_Mo_feed_86 (by decide) k) ?_
    refine ST.lift (fun _ _ k => T_iload d_Mo_feed_88 rfl k) ?_
    refine ST.lift (fun _ _ k => T_iconst (v := nI 3) d_Mo_feed_90 (by decide) k) ?_
    refine S_iandN 2 d_Mo_feed_91 (by omega) (by decide) (by decide) ?_
    refine S_topi (y := nI 1) (by decide) ?_
    refine S_imulN d_Mo_feed_92 ?_
    refine S_topi (y := nI 8) (by decide) ?_
    refine S_isubN d_Mo_feed_93 (by omega) ?_
    refine S_topi (y := nI 16) (by decide) ?_
    refine ST.lift (fun _ _ k => T_ishr d_Mo_feed_94 k) (S_anyi fun z12 => ?_)
    refine ST.lift (fun _ _ k => T_sipush (v := nI 255) d_Mo_feed_95 (by decide) k) ?_
    refine S_iandM 8 d_Mo_feed_98 (by decide) (by decide) (fun j13 hj13 => ?_)
    simp only [Nat.reducePow] at hj13
    refine S_iastore d_Mo_feed_99 (by decide) a409 (vp_in_nI (by omega) (by omega)) ?_
    refine ST.lift (fun _ _ k => T_aload_n (v := .ref 373) d_Mo_feed_100 rfl (Or.inr ⟨_, rfl⟩) k) ?_
    refine ST.lift (fun _ _ k => T_dup d_Mo_feed_101 rfl k) ?_
    refine S_getfield d_Mo_feed_102 fg_Mo_344 (w373 _) rfl ?_
    refine S_topi (y := nI (t + 1)) (e_u8) ?_
    refine ST.lift (fun _ _ k => T_iconst (v := nI 1) d_Mo_feed_105 (by decide) k) ?_
    refine S_iaddN d_Mo_feed_106 ?_
    refine S_putfield (v' := va_up u8 73 (nI ((t + 1) + 1))) d_Mo_feed_107 (fp_Mo_344 _) (w373 _) (Nat.le_of_ble_eq_true rfl) ⟨rfl, rfl⟩ (u373_43 _ _) ?_
    have hv15 := hv9.up (j := 73) (c := 200) (k := ((t + 1) + 1)) (by decide) (by omega)
    have hm16 := hm10.go (mdf.up (v := u8) (j := 73) (x := (nI ((t + 1) + 1)))) (by intro i hi; simp only [List.mem_cons, List.not_mem_nil, or_false] at hi ⊢ <;> omega)
    have e_u14 : (va_up u8 73 (nI ((t + 1) + 1))) 73 = (nI ((t + 1) + 1)) := by simp [va_up]
    have e17 : (va_up u8 73 (nI ((t + 1) + 1))) 66 = nI 0 := by simp only [va_up]; exact e11
    generalize va_up u8 73 (nI ((t + 1) + 1)) = u14 at hv15 hm16 e_u14 e17 ⊢
    refine S_iincN (a := 1) (b := 1) (L' := [(6, .int (nI 2)), (7, .int x1), (0, .ref 373), (1, .int x1), (2, .int x2), (3, .int x3), (4, .int x4), (5, .int x5)]) d_Mo_feed_110 (by decide) rfl rfl rfl ?_
    refine ST.lift (fun _ _ k => T_goto (tgt := 23) d_Mo_feed_113 rfl k) ?_
    refine ST.lift (fun _ _ k => T_iload d_Mo_feed_23 rfl k) ?_
    refine ST.lift (fun _ _ k => T_bipush (v := nI 20) d_Mo_feed_25 (by decide) k) ?_
    refine S_icmp_geN d_Mo_feed_27 rfl (by omega) (by omega) (fun c => by first | exact absurd c (by omega) | exact c.elim | exact absurd c (by decide) | exact absurd (by assumption) c | exact absurd c (by assumption)) (fun _ => ?_)
    refine ST.lift (fun _ _ k => T_iload_n d_Mo_feed_30 rfl k) ?_
    refine ST.lift (fun _ _ k => T_istore (L' := [(7, .int x1), (6, .int (nI 2)), (0, .ref 373), (1, .int x1), (2, .int x2), (3, .int x3), (4, .int x4), (5, .int x5)]) d_Mo_feed_31 (by decide) rfl k) ?_
    refine ST.lift (fun _ _ k => T_iload d_Mo_feed_33 rfl k) ?_
    refine ST.lift (fun _ _ k => T_iconst (v := nI 4) d_Mo_feed_35 (by decide) k) ?_
    refine S_icmp_ltN d_Mo_feed_36 rfl (by omega) (by omega) (fun _ => ?_) (fun c => by first | exact absurd c (by omega) | exact c.elim | exact absurd c (by decide) | exact absurd (by assumption) c | exact absurd c (by assumption))
    refine ST.lift (fun _ _ k => T_iload d_Mo_feed_42 rfl k) ?_
    refine ST.lift (fun _ _ k => T_bipush (v := nI 8) d_Mo_feed_44 (by decide) k) ?_
    refine S_icmp_ltN d_Mo_feed_46 rfl (by omega) (by omega) (fun _ => ?_) (fun c => by first | exact absurd c (by omega) | exact c.elim | exact absurd c (by decide) | exact absurd (by assumption) c | exact absurd c (by assumption))
    refine ST.lift (fun _ _ k => T_iload d_Mo_feed_52 rfl k) ?_
    refine ST.lift (fun _ _ k => T_bipush (v := nI 12) d_Mo_feed_54 (by decide) k) ?_
    refine S_icmp_ltN d_Mo_feed_56 rfl (by omega) (by omega) (fun _ => ?_) (fun c => by first | exact absurd c (by omega) | exact c.elim | exact absurd c (by decide) | exact absurd (by assumption) c | exact absurd c (by assumption))
    refine ST.lift (fun _ _ k => T_iload d_Mo_feed_63 rfl k) ?_
    refine ST.lift (fun _ _ k => T_bipush (v := nI 16) d_Mo_feed_65 (by decide) k) ?_
    refine S_icmp_ltN d_Mo_feed_67 rfl (by omega) (by omega) (fun _ => ?_) (fun c => by first | exact absurd c (by omega) | exact c.elim | exact absurd c (by decide) | exact absurd (by assumption) c | exact absurd c (by assumption))
    refine ST.lift (fun _ _ k => T_aload_n (v := .ref 373) d_Mo_feed_74 rfl (Or.inr ⟨_, rfl⟩) k) ?_
    refine S_getfield d_Mo_feed_75 fg_Mo_341 (w373 _) rfl ?_
    refine ST.lift (fun _ _ k => T_aload_n (v := .ref 373) d_Mo_feed_78 rfl (Or.inr ⟨_, rfl⟩) k) ?_
    refine S_getfield d_Mo_feed_79 fg_Mo_344 (w373 _) rfl ?_
    refine S_topi (y := nI ((t + 1) + 1)) (e_u14) ?_
    refine ST.lift (fun _ _ k => T_iload d_Mo_feed_82 rfl k) ?_
    refine ST.lift (fun _ _ k => T_bipush (v := nI 24) d_Mo_feed_84 (by decide) k) ?_
    refine ST.lift (fun _ _ k => T_bipush (v := nI 8) d_Mo_feed_86 (by decide) k) ?_
    refine ST.lift (fun _ _ k => T_iload d_Mo_feed_88 rfl k) ?_
    refine ST.lift (fun _ _ k => T_iconst (v := nI 3) d_Mo_feed_90 (by decide) k) ?_
    refine S_iandN 2 d_Mo_feed_91 (by omega) (by decide) (by decide) ?_
    refine S_topi (y := nI 2) (by decide) ?_
    refine S_imulN d_Mo_feed_92 ?_
    refine S_topi (y := nI 16) (by decide) ?_
    refine S_isubN d_Mo_feed_93 (by omega) ?_
    refine S_topi (y := nI 8) (by decide) ?_
    refine ST.lift (fun _ _ k => T_ishr d_Mo_feed_94 k) (S_anyi fun z18 => ?_)
    refine ST.lift (fun _ _ k => T_sipush (v := nI 255) d_Mo_feed_95 (by decide) k) ?_
    refine S_iandM 8 d_Mo_feed_98 (by decide) (by decide) (fun j19 hj19 => ?_)
    simp only [Nat.reducePow] at hj19
    refine S_iastore d_Mo_feed_99 (by decide) a409 (vp_in_nI (by omega) (by omega)) ?_
    refine ST.lift (fun _ _ k => T_aload_n (v := .ref 373) d_Mo_feed_100 rfl (Or.inr ⟨_, rfl⟩) k) ?_
    refine ST.lift (fun _ _ k => T_dup d_Mo_feed_101 rfl k) ?_
    refine S_getfield d_Mo_feed_102 fg_Mo_344 (w373 _) rfl ?_
    refine S_topi (y := nI ((t + 1) + 1)) (e_u14) ?_
    refine ST.lift (fun _ _ k => T_iconst (v := nI 1) d_Mo_feed_105 (by decide) k) ?_
    refine S_iaddN d_Mo_feed_106 ?_
    refine S_putfield (v' := va_up u14 73 (nI (((t + 1) + 1) + 1))) d_Mo_feed_107 (fp_Mo_344 _) (w373 _) (Nat.le_of_ble_eq_true rfl) ⟨rfl, rfl⟩ (u373_43 _ _) ?_
    have hv21 := hv15.up (j := 73) (c := 200) (k := (((t + 1) + 1) + 1)) (by decide) (by omega)
    have hm22 := hm16.go (mdf.up (v := u14) (j := 73) (x := (nI (((t + 1) + 1) + 1)))) (by intro i hi; simp only [List.mem_cons, List.not_mem_nil, or_false] at hi ⊢ <;> omega)
    have e_u20 : (va_up u14 73 (nI (((t + 1) + 1) + 1))) 73 = (nI (((t + 1) + 1) + 1)) := by simp [va_up]
    have e23 : (va_up u14 73 (nI (((t + 1) + 1) + 1))) 66 = nI 0 := by simp only [va_up]; exact e17
    generalize va_up u14 73 (nI (((t + 1) + 1) + 1)) = u20 at hv21 hm22 e_u20 e23 ⊢
    refine S_iincN (a := 2) (b := 1) (L' := [(6, .int (nI 3)), (7, .int x1), (0, .ref 373), (1, .int x1), (2, .int x2), (3, .int x3), (4, .int x4), (5, .int x5)]) d_Mo_feed_110 (by decide) rfl rfl rfl ?_
    refine ST.lift (fun _ _ k => T_goto (tgt := 23) d_Mo_feed_113 rfl k) ?_
    refine ST.lift (fun _ _ k => T_iload d_Mo_feed_23 rfl k) ?_
    refine ST.lift (fun _ _ k => T_bipush (v := nI 20) d_Mo_feed_25 (by decide) k) ?_
    refine S_icmp_geN d_Mo_feed_27 rfl (by omega) (by omega) (fun c => by first | exact absurd c (by omega) | exact c.elim | exact absurd c (by decide) | exact absurd (by assumption) c | exact absurd c (by assumption)) (fun _ => ?_)
    refine ST.lift (fun _ _ k => T_iload_n d_Mo_feed_30 rfl k) ?_
    refine ST.lift (fun _ _ k => T_istore (L' := [(7, .int x1), (6, .int (nI 3)), (0, .ref 373), (1, .int x1), (2, .int x2), (3, .int x3), (4, .int x4), (5, .int x5)]) d_Mo_feed_31 (by decide) rfl k) ?_
    refine ST.lift (fun _ _ k => T_iload d_Mo_feed_33 rfl k) ?_
    refine ST.lift (fun _ _ k => T_iconst (v := nI 4) d_Mo_feed_35 (by decide) k) ?_
    refine S_icmp_ltN d_Mo_feed_36 rfl (by omega) (by omega) (fun _ => ?_) (fun c => by first | exact absurd c (by omega) | exact c.elim | exact absurd c (by decide) | exact absurd (by assumption) c | exact absurd c (by assumption))
    refine ST.lift (fun _ _ k => T_iload d_Mo_feed_42 rfl k) ?_
    refine ST.lift (fun _ _ k => T_bipush (v := nI 8) d_Mo_feed_44 (by decide) k) ?_
    refine S_icmp_ltN d_Mo_feed_46 rfl (by omega) (by omega) (fun _ => ?_) (fun c => by first | exact absurd c (by omega) | exact c.elim | exact absurd c (by decide) | exact absurd (by assumption) c | exact absurd c (by assumption))
    refine ST.lift (fun _ _ k => T_iload d_Mo_feed_52 rfl k) ?_
    refine ST.lift (fun _ _ k => T_bipush (v := nI 12) d_Mo_feed_54 (by decide) k) ?_
    refine S_icmp_ltN d_Mo_feed_56 rfl (by omega) (by omega) (fun _ => ?_) (fun c => by first | exact absurd c (by omega) | exact c.elim | exact absurd c (by decide) | exact absurd (by assumption) c | exact absurd c (by assumption))
    refine ST.lift (fun _ _ k => T_iload d_Mo_feed_63 rfl k) ?_
    refine ST.lift (fun _ _ k => T_bipush (v := nI 16) d_Mo_feed_65 (by decide) k) ?_
    refine S_icmp_ltN d_Mo_feed_67 rfl (by omega) (by omega) (fun _ => ?_) (fun c => by first | exact absurd c (by omega) | exact c.elim | exact absurd c (by decide) | exact absurd (by assumption) c | exact absurd c (by assumption))
    refine ST.lift (fun _ _ k => T_aload_n (v := .ref 373) d_Mo_feed_74 rfl (Or.inr ⟨_, rfl⟩) k) ?_
    refine S_getfield d_Mo_feed_75 fg_Mo_341 (w373 _) rfl ?_
    refine ST.lift (fun _ _ k => T_aload_n (v := .ref 373) d_Mo_feed_78 rfl (Or.inr ⟨_, rfl⟩) k) ?_
    refine S_getfield d_Mo_feed_79 fg_Mo_344 (w373 _) rfl ?_
    refine S_topi (y := nI (((t + 1) + 1) + 1)) (e_u20) ?_
    refine ST.lift (fun _ _ k => T_iload d_Mo_feed_82 rfl k) ?_
    refine ST.lift (fun _ _ k => T_bipush (v := nI 24) d_Mo_feed_84 (by decide) k) ?_
    refine ST.lift (fun _ _ k => T_bipush (v := nI 8) d_Mo_feed_86 (by decide) k) ?_
    refine ST.lift (fun _ _ k => T_iload d_Mo_feed_88 rfl k) ?_
    refine ST.lift (fun _ _ k => T_iconst (v := nI 3) d_Mo_feed_90 (by decide) k) ?_
    refine S_iandN 2 d_Mo_feed_91 (by omega) (by decide) (by decide) ?_
    refine S_topi (y := nI 3) (by decide) ?_
    refine S_imulN d_Mo_feed_92 ?_
    refine S_topi (y := nI 24) (by decide) ?_
    refine S_isubN d_Mo_feed_93 (by omega) ?_
    refine S_topi (y := nI 0) (by decide) ?_
    refine ST.lift (fun _ _ k => T_ishr d_Mo_feed_94 k) (S_anyi fun z24 => ?_)
    refine ST.lift (fun _ _ k => T_sipush (v := nI 255) d_Mo_feed_95 (by decide) k) ?_
    refine S_iandM 8 d_Mo_feed_98 (by decide) (by decide) (fun j25 hj25 => ?_)
    simp only [Nat.reducePow] at hj25
    refine S_iastore d_Mo_feed_99 (by decide) a409 (vp_in_nI (by omega) (by omega)) ?_
    refine ST.lift (fun _ _ k => T_aload_n (v := .ref 373) d_Mo_feed_100 rfl (Or.inr ⟨_, rfl⟩) k) ?_
    refine ST.lift (fun _ _ k => T_dup d_Mo_feed_101 rfl k) ?_
    refine S_getfield d_Mo_feed_102 fg_Mo_344 (w373 _) rfl ?_
    refine S_topi (y := nI (((t + 1) + 1) + 1)) (e_u20) ?_
    refine ST.lift (fun _ _ k => T_iconst (v := nI 1) d_Mo_feed_105 (by decide) k) ?_
    refine S_iaddN d_Mo_feed_106 ?_
    refine S_putfield (v' := va_up u20 73 (nI ((((t + 1) + 1) + 1) + 1))) d_Mo_feed_107 (fp_Mo_344 _) (w373 _) (Nat.le_of_ble_eq_true rfl) ⟨rfl, rfl⟩ (u373_43 _ _) ?_
    have hv27 := hv21.up (j := 73) (c := 200) (k := ((((t + 1) + 1) + 1) + 1)) (by decide) (by omega)
    have hm28 := hm22.go (mdf.up (v := u20) (j := 73) (x := (nI ((((t + 1) + 1) + 1) + 1)))) (by intro i hi; simp only [List.mem_cons, List.not_mem_nil, or_false] at hi ⊢ <;> omega)
    have e_u26 : (va_up u20 73 (nI ((((t + 1) + 1) + 1) + 1))) 73 = (nI ((((t + 1) + 1) + 1) + 1)) := by simp [va_up]
    have e29 : (va_up u20 73 (nI ((((t + 1) + 1) + 1) + 1))) 66 = nI 0 := by simp only [va_up]; exact e23
    generalize va_up u20 73 (nI ((((t + 1) + 1) + 1) + 1)) = u26 at hv27 hm28 e_u26 e29 ⊢
    refine S_iincN (a := 3) (b := 1) (L' := [(6, .int (nI 4)), (7, .int x1), (0, .ref 373), (1, .int x1), (2, .int x2), (3, .int x3), (4, .int x4), (5, .int x5)]) d_Mo_feed_110 (by decide) rfl rfl rfl ?_
    refine ST.lift (fun _ _ k => T_goto (tgt := 23) d_Mo_feed_113 rfl k) ?_
    refine ST.lift (fun _ _ k => T_iload d_Mo_feed_23 rfl k) ?_
    refine ST.lift (fun _ _ k => T_bipush (v := nI 20) d_Mo_feed_25 (by decide) k) ?_
    refine S_icmp_geN d_Mo_feed_27 rfl (by omega) (by omega) (fun c => by first | exact absurd c (by omega) | exact c.elim | exact absurd c (by decide) | exact absurd (by assumption) c | exact absurd c (by assumption)) (fun _ => ?_)
    refine ST.lift (fun _ _ k => T_iload_n d_Mo_feed_30 rfl k) ?_
    refine ST.lift (fun _ _ k => T_istore (L' := [(7, .int x1), (6, .int (nI 4)), (0, .ref 373), (1, .int x1), (2, .int x2), (3, .int x3), (4, .int x4), (5, .int x5)]) d_Mo_feed_31 (by decide) rfl k) ?_
    refine ST.lift (fun _ _ k => T_iload d_Mo_feed_33 rfl k) ?_
    refine ST.lift (fun _ _ k => T_iconst (v := nI 4) d_Mo_feed_35 (by decide) k) ?_
    refine S_icmp_ltN d_Mo_feed_36 rfl (by omega) (by omega) (fun c => by first | exact absurd c (by omega) | exact c.elim | exact absurd c (by decide) | exact absurd (by assumption) c | exact absurd c (by assumption)) (fun _ => ?_)
    refine ST.lift (fun _ _ k => T_iload_n d_Mo_feed_39 rfl k) ?_
    refine ST.lift (fun _ _ k => T_istore (L' := [(7, .int x2), (6, .int (nI 4)), (0, .ref 373), (1, .int x1), (2, .int x2), (3, .int x3), (4, .int x4), (5, .int x5)]) d_Mo_feed_40 (by decide) rfl k) ?_
    refine ST.lift (fun _ _ k => T_iload d_Mo_feed_42 rfl k) ?_
    refine ST.lift (fun _ _ k => T_bipush (v := nI 8) d_Mo_feed_44 (by decide) k) ?_
    refine S_icmp_ltN d_Mo_feed_46 rfl (by omega) (by omega) (fun _ => ?_) (fun c => by first | exact absurd c (by omega) | exact c.elim | exact absurd c (by decide) | exact absurd (by assumption) c | exact absurd c (by assumption))
    refine ST.lift (fun _ _ k => T_iload d_Mo_feed_52 rfl k) ?_
    refine ST.lift (fun _ _ k => T_bipush (v := nI 12) d_Mo_feed_54 (by decide) k) ?_
    refine S_icmp_ltN d_Mo_feed_56 rfl (by omega) (by omega) (fun _ => ?_) (fun c => by first | exact absurd c (by omega) | exact c.elim | exact absurd c (by decide) | exact absurd (by assumption) c | exact absurd c (by assumption))
    refine ST.lift (fun _ _ k => T_iload d_Mo_feed_63 rfl k) ?_
    refine ST.lift (fun _ _ k => T_bipush (v := nI 16) d_Mo_feed_65 (by decide) k) ?_
    refine S_icmp_ltN d_Mo_feed_67 rfl (by omega) (by omega) (fun _ => ?_) (fun c => by first | exact absurd c (by omega) | exact c.elim | exact absurd c (by decide) | exact absurd (by assumption) c | exact absurd c (by assumption))
    refine ST.lift (fun _ _ k => T_aload_n (v := .ref 373) d_Mo_feed_74 rfl (Or.inr ⟨_, rfl⟩) k) ?_
    refine S_getfield d_Mo_feed_75 fg_Mo_341 (w373 _) rfl ?_
    refine ST.lift (fun _ _ k => T_aload_n (v := .ref 373) d_Mo_feed_78 rfl (Or.inr ⟨_, rfl⟩) k) ?_
    refine S_getfield d_Mo_feed_79 fg_Mo_344 (w373 _) rfl ?_
    refine S_topi (y := nI ((((t + 1) + 1) + 1) + 1)) (e_u26) ?_
    refine ST.lift (fun _ _ k => T_iload d_Mo_feed_82 rfl k) ?_
    refine ST.lift (fun _ _ k => T_bipush (v := nI 24) d_Mo_feed_84 (by decide) k) ?_
    refine ST.lift (fun _ _ k => T_bipush (v := nI 8) d_Mo_feed_86 (by decide) k) ?_
    refine ST.lift (fun _ _ k => T_iload d_Mo_feed_88 rfl k) ?_
    refine ST.lift (fun _ _ k => T_iconst (v := nI 3) d_Mo_feed_90 (by decide) k) ?_
    refine S_iandN 2 d_Mo_feed_91 (by omega) (by decide) (by decide) ?_
    refine S_topi (y := nI 0) (by decide) ?_
    refine S_imulN d_Mo_feed_92 ?_
    refine S_topi (y := nI 0) (by decide) ?_
    refine S_isubN d_Mo_feed_93 (by omega) ?_
    refine S_topi (y := nI 24) (by decide) ?_
    refine ST.lift (fun _ _ k => T_ishr d_Mo_feed_94 k) (S_anyi fun z30 => ?_)
    refine ST.lift (fun _ _ k => T_sipush (v := nI 255) d_Mo_feed_95 (by decide) k) ?_
    refine S_iandM 8 d_Mo_feed_98 (by decide) (by decide) (fun j31 hj31 => ?_)
    simp only [Nat.reducePow] at hj31
    refine S_iastore d_Mo_feed_99 (by decide) a409 (vp_in_nI (by omega) (by omega)) ?_
    refine ST.lift (fun _ _ k => T_aload_n (v := .ref 373) d_Mo_feed_100 rfl (Or.inr ⟨_, rfl⟩) k) ?_
    refine ST.lift (fun _ _ k => T_dup d_Mo_feed_101 rfl k) ?_
    refine S_getfield d_Mo_feed_102 fg_Mo_344 (w373 _) rfl ?_
    refine S_topi (y := nI ((((t + 1) + 1) + 1) + 1)) (e_u26) ?_
    refine ST.lift (fun _ _ k => T_iconst (v := nI 1) d_Mo_feed_105 (by decide) k) ?_
    refine S_iaddN d_Mo_feed_106 ?_
    refine S_putfield (v' := va_up u26 73 (nI (((((t + 1) + 1) + 1) + 1) + 1))) d_Mo_feed_107 (fp_Mo_344 _) (w373 _) (Nat.le_of_ble_eq_true rfl) ⟨rfl, rfl⟩ (u373_43 _ _) ?_
    have hv33 := hv27.up (j := 73) (c := 200) (k := (((((t + 1) + 1) + 1) + 1) + 1)) (by decide) (by omega)
    have hm34 := hm28.go (mdf.up (v := u26) (j := 73) (x := (nI (((((t + 1) + 1) + 1) + 1) + 1)))) (by intro i hi; simp only [List.mem_cons, List.not_mem_nil, or_false] at hi ⊢ <;> omega)
    have e_u32 : (va_up u26 73 (nI (((((t + 1) + 1) + 1) + 1) + 1))) 73 = (nI (((((t + 1) + 1) + 1) + 1) + 1)) := by simp [va_up]
    have e35 : (va_up u26 73 (nI (((((t + 1) + 1) + 1) + 1) + 1))) 66 = nI 0 := by simp only [va_up]; exact e29
    generalize va_up u26 73 (nI (((((t + 1) + 1) + 1) + 1) + 1)) = u32 at hv33 hm34 e_u32 e35 ⊢
    refine S_iincN (a := 4) (b := 1) (L' := [(6, .int (nI 5)), (7, .int x2), (0, .ref 373), (1, .int x1), (2, .int x2), (3, .int x3), (4, .int x4), (5, .int x5)]) d_Mo_feed_110 (by decide) rfl rfl rfl ?_
    refine ST.lift (fun _ _ k => T_goto (tgt := 23) d_Mo_feed_113 rfl k) ?_
    refine ST.lift (fun _ _ k => T_iload d_Mo_feed_23 rfl k) ?_
    refine ST.lift (fun _ _ k => T_bipush (v := nI 20) d_Mo_feed_25 (by decide) k) ?_
    refine S_icmp_geN d_Mo_feed_27 rfl (by omega) (by omega) (fun c => by first | exact absurd c (by omega) | exact c.elim | exact absurd c (by decide) | exact absurd (by assumption) c | exact absurd c (by assumption)) (fun _ => ?_)
    refine ST.lift (fun _ _ k => T_iload_n d_Mo_feed_30 rfl k) ?_
    refine ST.lift (fun _ _ k => T_istore (L' := [(7, .int x1), (6, .int (nI 5)), (0, .ref 373), (1, .int x1), (2, .int x2), (3, .int x3), (4, .int x4), (5, .int x5)]) d_Mo_feed_31 (by decide) rfl k) ?_
    refine ST.lift (fun _ _ k => T_iload d_Mo_feed_33 rfl k) ?_
    refine ST.lift (fun _ _ k => T_iconst (v := nI 4) d_Mo_feed_35 (by decide) k) ?_
    refine S_icmp_ltN d_Mo_feed_36 rfl (by omega) (by omega) (fun c => by first | exact absurd c (by omega) | exact c.elim | exact absurd c (by decide) | exact absurd (by assumption) c | exact absurd c (by assumption)) (fun _ => ?_)
    refine ST.lift (fun _ _ k => T_iload_n d_Mo_feed_39 rfl k) ?_
    refine ST.lift (fun _ _ k => T_istore (L' := [(7, .int x2), (6, .int (nI 5)), (0, .ref 373), (1, .int x1), (2, .int x2), (3, .int x3), (4, .int x4), (5, .int x5)]) d_Mo_feed_40 (by decide) rfl k) ?_
    refine ST.lift (fun _ _ k => T_iload d_Mo_feed_42 rfl k) ?_
    refine ST.lift (fun _ _ k => T_bipush (v := nI 8) d_Mo_feed_44 (by decide) k) ?_
    refine S_icmp_ltN d_Mo_feed_46 rfl (by omega) (by omega) (fun _ => ?_) (fun c => by first | exact absurd c (by omega) | exact c.elim | exact absurd c (by decide) | exact absurd (by assumption) c | exact absurd c (by assumption))
    refine ST.lift (fun _ _ k => T_iload d_Mo_feed_52 rfl k) ?_
    refine ST.lift (fun _ _ k => T_bipush (v := nI 12) d_Mo_feed_54 (by decide) k) ?_
    refine S_icmp_ltN d_Mo_feed_56 rfl (by omega) (by omega) (fun _ => ?_) (fun c => by first | exact absurd c (by omega) | exact c.elim | exact absurd c (by decide) | exact absurd (by assumption) c | exact absurd c (by assumption))
    refine ST.lift (fun _ _ k => T_iload d_Mo_feed_63 rfl k) ?_
    refine ST.lift (fun _ _ k => T_bipush (v := nI 16) d_Mo_feed_65 (by decide) k) ?_
    refine S_icmp_ltN d_Mo_feed_67 rfl (by omega) (by omega) (fun _ => ?_) (fun c => by first | exact absurd c (by omega) | exact c.elim | exact absurd c (by decide) | exact absurd (by assumption) c | exact absurd c (by assumption))
    refine ST.lift (fun _ _ k => T_aload_n (v := .ref 373) d_Mo_feed_74 rfl (Or.inr ⟨_, rfl⟩) k) ?_
    refine S_getfield d_Mo_feed_75 fg_Mo_341 (w373 _) rfl ?_
    refine ST.lift (fun _ _ k => T_aload_n (v := .ref 373) d_Mo_feed_78 rfl (Or.inr ⟨_, rfl⟩) k) ?_
    refine S_getfield d_Mo_feed_79 fg_Mo_344 (w373 _) rfl ?_
    refine S_topi (y := nI (((((t + 1) + 1) + 1) + 1) + 1)) (e_u32) ?_
    refine ST.lift (fun _ _ k => T_iload d_Mo_feed_82 rfl k) ?_
    refine ST.lift (fun _ _ k => T_bipush (v := nI 24) d_Mo_feed_84 (by decide) k) ?_
    refine ST.lift (fun _ _ k => T_bipush (v := nI 8) d_Mo_feed_86 (by decide) k) ?_
    refine ST.lift (fun _ _ k => T_iload d_Mo_feed_88 rfl k) ?_
    refine ST.lift (fun _ _ k => T_iconst (v := nI 3) d_Mo_feed_90 (by decide) k) ?_
    refine S_iandN 2 d_Mo_feed_91 (by omega) (by decide) (by decide) ?_
    refine S_topi (y := nI 1) (by decide) ?_
    refine S_imulN d_Mo_feed_92 ?_
    refine S_topi (y := nI 8) (by decide) ?_
    refine S_isubN d_Mo_feed_93 (by omega) ?_
    refine S_topi (y := nI 16) (by decide) ?_
    refine ST.lift (fun _ _ k => T_ishr d_Mo_feed_94 k) (S_anyi fun z36 => ?_)
    refine ST.lift (fun _ _ k => T_sipush (v := nI 255) d_Mo_feed_95 (by decide) k) ?_
    refine S_iandM 8 d_Mo_feed_98 (by decide) (by decide) (fun j37 hj37 => ?_)
    simp only [Nat.reducePow] at hj37
    refine S_iastore d_Mo_feed_99 (by decide) a409 (vp_in_nI (by omega) (by omega)) ?_
    refine ST.lift (fun _ _ k => T_aload_n (v := .ref 373) d_Mo_feed_100 rfl (Or.inr ⟨_, rfl⟩) k) ?_
    refine ST.lift (fun _ _ k => T_dup d_Mo_feed_101 rfl k) ?_
    refine S_getfield d_Mo_feed_102 fg_Mo_344 (w373 _) rfl ?_
    refine S_topi (y := nI (((((t + 1) + 1) + 1) + 1) + 1)) (e_u32) ?_
    refine ST.lift (fun _ _ k => T_iconst (v := nI 1) d_Mo_feed_105 (by decide) k) ?_
    refine S_iaddN d_Mo_feed_106 ?_
    refine S_putfield (v' := va_up u32 73 (nI ((((((t + 1) + 1) + 1) + 1) + 1) + 1))) d_Mo_feed_107 (fp_Mo_344 _) (w373 _) (Nat.le_of_ble_eq_true rfl) ⟨rfl, rfl⟩ (u373_43 _ _) ?_
    have hv39 := hv33.up (j := 73) (c := 200) (k := ((((((t + 1) + 1) + 1) + 1) + 1) + 1)) (by decide) (by omega)
    have hm40 := hm34.go (mdf.up (v := u32) (j := 73) (x := (nI ((((((t + 1) + 1) + 1) + 1) + 1) + 1)))) (by intro i hi; simp only [List.mem_cons, List.not_mem_nil, or_false] at hi ⊢ <;> omega)
    have e_u38 : (va_up u32 73 (nI ((((((t + 1) + 1) + 1) + 1) + 1) + 1))) 73 = (nI ((((((t + 1) + 1) + 1) + 1) + 1) + 1)) := by simp [va_up]
    have e41 : (va_up u32 73 (nI ((((((t + 1) + 1) + 1) + 1) + 1) + 1))) 66 = nI 0 := by simp only [va_up]; exact e35
    generalize va_up u32 73 (nI ((((((t + 1) + 1) + 1) + 1) + 1) + 1)) = u38 at hv39 hm40 e_u38 e41 ⊢
    refine S_iincN (a := 5) (b := 1) (L' := [(6, .int (nI 6)), (7, .int x2), (0, .ref 373), (1, .int x1), (2, .int x2), (3, .int x3), (4, .int x4), (5, .int x5)]) d_Mo_feed_110 (by decide) rfl rfl rfl ?_
    refine ST.lift (fun _ _ k => T_goto (tgt := 23) d_Mo_feed_113 rfl k) ?_
    refine ST.lift (fun _ _ k => T_iload d_Mo_feed_23 rfl k) ?_
    refine ST.lift (fun _ _ k => T_bipush (v := nI 20) d_Mo_feed_25 (by decide) k) ?_
    refine S_icmp_geN d_Mo_feed_27 rfl (by omega) (by omega) (fun c => by first | exact absurd c (by omega) | exact c.elim | exact absurd c (by decide) | exact absurd (by assumption) c | exact absurd c (by assumption)) (fun _ => ?_)
    refine ST.lift (fun _ _ k => T_iload_n d_Mo_feed_30 rfl k) ?_
    refine ST.lift (fun _ _ k => T_istore (L' := [(7, .int x1), (6, .int (nI 6)), (0, .ref 373), (1, .int x1), (2, .int x2), (3, .int x3), (4, .int x4), (5, .int x5)]) d_Mo_feed_31 (by decide) rfl k) ?_
    refine ST.lift (fun _ _ k => T_iload d_Mo_feed_33 rfl k) ?_
    refine ST.lift (fun _ _ k => T_iconst (v := nI 4) d_Mo_feed_35 (by decide) k) ?_
    refine S_icmp_ltN d_Mo_feed_36 rfl (by omega) (by omega) (fun c => by first | exact absurd c (by omega) | exact c.elim | exact absurd c (by decide) | exact absurd (by assumption) c | exact absurd c (by assumption)) (fun _ => ?_)
    refine ST.lift (fun _ _ k => T_iload_n d_Mo_feed_39 rfl k) ?_
    refine ST.lift (fun _ _ k => T_istore (L' := [(7, .int x2), (6, .int (nI 6)), (0, .ref 373), (1, .int x1), (2, .int x2), (3, .int x3), (4, .int x4), (5, .int x5)]) d_Mo_feed_40 (by decide) rfl k) ?_
    refine ST.lift (fun _ _ k => T_iload d_Mo_feed_42 rfl k) ?_
    refine ST.lift (fun _ _ k => T_bipush (v := nI 8) d_Mo_feed_44 (by decide) k) ?_
    refine S_icmp_ltN d_Mo_feed_46 rfl (by omega) (by omega) (fun _ => ?_) (fun c => by first | exact absurd c (by omega) | exact c.elim | exact absurd c (by decide) | exact absurd (by assumption) c | exact absurd c (by assumption))
    refine ST.lift (fun _ _ k => T_iload d_Mo_feed_52 rfl k) ?_
    refine ST.lift (fun _ _ k => T_bipush (v := nI 12) d_Mo_feed_54 (by decide) k) ?_
    refine S_icmp_ltN d_Mo_feed_56 rfl (by omega) (by omega) (fun _ => ?_) (fun c => by first | exact absurd c (by omega) | exact c.elim | exact absurd c (by decide) | exact absurd (by assumption) c | exact absurd c (by assumption))
    refine ST.lift (fun _ _ k => T_iload d_Mo_feed_63 rfl k) ?_
    refine ST.lift (fun _ _ k => T_bipush (v := nI 16) d_Mo_feed_65 (by decide) k) ?_
    refine S_icmp_ltN d_Mo_feed_67 rfl (by omega) (by omega) (fun _ => ?_) (fun c => by first | exact absurd c (by omega) | exact c.elim | exact absurd c (by decide) | exact absurd (by assumption) c | exact absurd c (by assumption))
    refine ST.lift (fun _ _ k => T_aload_n (v := .ref 373) d_Mo_feed_74 rfl (Or.inr ⟨_, rfl⟩) k) ?_
    refine S_getfield d_Mo_feed_75 fg_Mo_341 (w373 _) rfl ?_
    refine ST.lift (fun _ _ k => T_aload_n (v := .ref 373) d_Mo_feed_78 rfl (Or.inr ⟨_, rfl⟩) k) ?_
    refine S_getfield d_Mo_feed_79 fg_Mo_344 (w373 _) rfl ?_
    refine S_topi (y := nI ((((((t + 1) + 1) + 1) + 1) + 1) + 1)) (e_u38) ?_
    refine ST.lift (fun _ _ k => T_iload d_Mo_feed_82 rfl k) ?_
    refine ST.lift (fun _ _ k => T_bipush (v := nI 24) d_Mo_feed_84 (by decide) k) ?_
    refine ST.lift (fun _ _ k => T_bipush (v := nI 8) d_Mo_feed_86 (by decide) k) ?_
    refine ST.lift (fun _ _ k => T_iload d_Mo_feed_88 rfl k) ?_
    refine ST.lift (fun _ _ k => T_iconst (v := nI 3) d_Mo_feed_90 (by decide) k) ?_
    refine S_iandN 2 d_Mo_feed_91 (by omega) (by decide) (by decide) ?_
    refine S_topi (y := nI 2) (by decide) ?_
    refine S_imulN d_Mo_feed_92 ?_
    refine S_topi (y := nI 16) (by decide) ?_
    refine S_isubN d_Mo_feed_93 (by omega) ?_
    refine S_topi (y := nI 8) (by decide) ?_
    refine ST.lift (fun _ _ k => T_ishr d_Mo_feed_94 k) (S_anyi fun z42 => ?_)
    refine ST.lift (fun _ _ k => T_sipush (v := nI 255) d_Mo_feed_95 (by decide) k) ?_
    refine S_iandM 8 d_Mo_feed_98 (by decide) (by decide) (fun j43 hj43 => ?_)
    simp only [Nat.reducePow] at hj43
    refine S_iastore d_Mo_feed_99 (by decide) a409 (vp_in_nI (by omega) (by omega)) ?_
    refine ST.lift (fun _ _ k => T_aload_n (v := .ref 373) d_Mo_feed_100 rfl (Or.inr ⟨_, rfl⟩) k) ?_
    refine ST.lift (fun _ _ k => T_dup d_Mo_feed_101 rfl k) ?_
    refine S_getfield d_Mo_feed_102 fg_Mo_344 (w373 _) rfl ?_
    refine S_topi (y := nI ((((((t + 1) + 1) + 1) + 1) + 1) + 1)) (e_u38) ?_
    refine ST.lift (fun _ _ k => T_iconst (v := nI 1) d_Mo_feed_105 (by decide) k) ?_
    refine S_iaddN d_Mo_feed_106 ?_
    refine S_putfield (v' := va_up u38 73 (nI (((((((t + 1) + 1) + 1) + 1) + 1) + 1) + 1))) d_Mo_feed_107 (fp_Mo_344 _) (w373 _) (Nat.le_of_ble_eq_true rfl) ⟨rfl, rfl⟩ (u373_43 _ _) ?_
    have hv45 := hv39.up (j := 73) (c := 200) (k := (((((((t + 1) + 1) + 1) + 1) + 1) + 1) + 1)) (by decide) (by omega)
    have hm46 := hm40.go (mdf.up (v := u38) (j := 73) (x := (nI (((((((t + 1) + 1) + 1) + 1) + 1) + 1) + 1)))) (by intro i hi; simp only [List.mem_cons, List.not_mem_nil, or_false] at hi ⊢ <;> omega)
    have e_u44 : (va_up u38 73 (nI (((((((t + 1) + 1) + 1) + 1) + 1) + 1) + 1))) 73 = (nI (((((((t + 1) + 1) + 1) + 1) + 1) + 1) + 1)) := by simp [va_up]
    have e47 : (va_up u38 73 (nI (((((((t + 1) + 1) + 1) + 1) + 1) + 1) + 1))) 66 = nI 0 := by simp only [va_up]; exact e41
    generalize va_up u38 73 (nI (((((((t + 1) + 1) + 1) + 1) + 1) + 1) + 1)) = u44 at hv45 hm46 e_u44 e47 ⊢
    refine S_iincN (a := 6) (b := 1) (L' := [(6, .int (nI 7)), (7, .int x2), (0, .ref 373), (1, .int x1), (2, .int x2), (3, .int x3), (4, .int x4), (5, .int x5)]) d_Mo_feed_110 (by decide) rfl rfl rfl ?_
    refine ST.lift (fun _ _ k => T_goto (tgt := 23) d_Mo_feed_113 rfl k) ?_
    refine ST.lift (fun _ _ k => T_iload d_Mo_feed_23 rfl k) ?_
    refine ST.lift (fun _ _ k => T_bipush (v := nI 20) d_Mo_feed_25 (by decide) k) ?_
    refine S_icmp_geN d_Mo_feed_27 rfl (by omega) (by omega) (fun c => by first | exact absurd c (by omega) | exact c.elim | exact absurd c (by decide) | exact absurd (by assumption) c | exact absurd c (by assumption)) (fun _ => ?_)
    refine ST.lift (fun _ _ k => T_iload_n d_Mo_feed_30 rfl k) ?_
    refine ST.lift (fun _ _ k => T_istore (L' := [(7, .int x1), (6, .int (nI 7)), (0, .ref 373), (1, .int x1), (2, .int x2), (3, .int x3), (4, .int x4), (5, .int x5)]) d_Mo_feed_31 (by decide) rfl k) ?_
    refine ST.lift (fun _ _ k => T_iload d_Mo_feed_33 rfl k) ?_
    refine ST.lift (fun _ _ k => T_iconst (v := nI 4) d_Mo_feed_35 (by decide) k) ?_
    refine S_icmp_ltN d_Mo_feed_36 rfl (by omega) (by omega) (fun c => by first | exact absurd c (by omega) | exact c.elim | exact absurd c (by decide) | exact absurd (by assumption) c | exact absurd c (by assumption)) (fun _ => ?_)
    refine ST.lift (fun _ _ k => T_iload_n d_Mo_feed_39 rfl k) ?_
    refine ST.lift (fun _ _ k => T_istore (L' := [(7, .int x2), (6, .int (nI 7)), (0, .ref 373), (1, .int x1), (2, .int x2), (3, .int x3), (4, .int x4), (5, .int x5)]) d_Mo_feed_40 (by decide) rfl k) ?_
    refine ST.lift (fun _ _ k => T_iload d_Mo_feed_42 rfl k) ?_
    refine ST.lift (fun _ _ k => T_bipush (v := nI 8) d_Mo_feed_44 (by decide) k) ?_
    refine S_icmp_ltN d_Mo_feed_46 rfl (by omega) (by omega) (fun _ => ?_) (fun c => by first | exact absurd c (by omega) | exact c.elim | exact absurd c (by decide) | exact absurd (by assumption) c | exact absurd c (by assumption))
    refine ST.lift (fun _ _ k => T_iload d_Mo_feed_52 rfl k) ?_
    refine ST.lift (fun _ _ k => T_bipush (v := nI 12) d_Mo_feed_54 (by decide) k) ?_
    refine S_icmp_ltN d_Mo_feed_56 rfl (by omega) (by omega) (fun _ => ?_) (fun c => by first | exact absurd c (by omega) | exact c.elim | exact absurd c (by decide) | exact absurd (by assumption) c | exact absurd c (by assumption))
    refine ST.lift (fun _ _ k => T_iload d_Mo_feed_63 rfl k) ?_
    refine ST.lift (fun _ _ k => T_bipush (v := nI 16) d_Mo_feed_65 (by decide) k) ?_
    refine S_icmp_ltN d_Mo_feed_67 rfl (by omega) (by omega) (fun _ => ?_) (fun c => by first | exact absurd c (by omega) | exact c.elim | exact absurd c (by decide) | exact absurd (by assumption) c | exact absurd c (by assumption))
    refine ST.lift (fun _ _ k => T_aload_n (v := .ref 373) d_Mo_feed_74 rfl (Or.inr ⟨_, rfl⟩) k) ?_
    refine S_getfield d_Mo_feed_75 fg_Mo_341 (w373 _) rfl ?_
    refine ST.lift (fun _ _ k => T_aload_n (v := .ref 373) d_Mo_feed_78 rfl (Or.inr ⟨_, rfl⟩) k) ?_
    refine S_getfield d_Mo_feed_79 fg_Mo_344 (w373 _) rfl ?_
    refine S_topi (y := nI (((((((t + 1) + 1) + 1) + 1) + 1) + 1) + 1)) (e_u44) ?_
    refine ST.lift (fun _ _ k => T_iload d_Mo_feed_82 rfl k) ?_
    refine ST.lift (fun _ _ k => T_bipush (v := nI 24) d_Mo_feed_84 (by decide) k) ?_
    refine ST.lift (fun _ _ k => T_bipush (v := nI 8) d_Mo_feed_86 (by decide) k) ?_
    refine ST.lift (fun _ _ k => T_iload d_Mo_feed_88 rfl k) ?_
    refine ST.lift (fun _ _ k => T_iconst (v := nI 3) d_Mo_feed_90 (by decide) k) ?_
    refine S_iandN 2 d_Mo_feed_91 (by omega) (by decide) (by decide) ?_
    refine S_topi (y := nI 3) (by decide) ?_
    refine S_imulN d_Mo_feed_92 ?_
    refine S_topi (y := nI 24) (by decide) ?_
    refine S_isubN d_Mo_feed_93 (by omega) ?_
    refine S_topi (y := nI 0) (by decide) ?_
    refine ST.lift (fun _ _ k => T_ishr d_Mo_feed_94 k) (S_anyi fun z48 => ?_)
    refine ST.lift (fun _ _ k => T_sipush (v := nI 255) d_Mo_feed_95 (by decide) k) ?_
    refine S_iandM 8 d_Mo_feed_98 (by decide) (by decide) (fun j49 hj49 => ?_)
    simp only [Nat.reducePow] at hj49
    refine S_iastore d_Mo_feed_99 (by decide) a409 (vp_in_nI (by omega) (by omega)) ?_
    refine ST.lift (fun _ _ k => T_aload_n (v := .ref 373) d_Mo_feed_100 rfl (Or.inr ⟨_, rfl⟩) k) ?_
    refine ST.lift (fun _ _ k => T_dup d_Mo_feed_101 rfl k) ?_
    refine S_getfield d_Mo_feed_102 fg_Mo_344 (w373 _) rfl ?_
    refine S_topi (y := nI (((((((t + 1) + 1) + 1) + 1) + 1) + 1) + 1)) (e_u44) ?_
    refine ST.lift (fun _ _ k => T_iconst (v := nI 1) d_Mo_feed_105 (by decide) k) ?_
    refine S_iaddN d_Mo_feed_106 ?_
    refine S_putfield (v' := va_up u44 73 (nI ((((((((t + 1) + 1) + 1) + 1) + 1) + 1) + 1) + 1))) d_Mo_feed_107 (fp_Mo_344 _) (w373 _) (Nat.le_of_ble_eq_true rfl) ⟨rfl, rfl⟩ (u373_43 _ _) ?_
    have hv51 := hv45.up (j := 73) (c := 200) (k := ((((((((t + 1) + 1) + 1) + 1) + 1) + 1) + 1) + 1)) (by decide) (by omega)
    have hm52 := hm46.go (mdf.up (v := u44) (j := 73) (x := (nI ((((((((t + 1) + 1) + 1) + 1) + 1) + 1) + 1) + 1)))) (by intro i hi; simp only [List.mem_cons, List.not_mem_nil, or_false] at hi ⊢ <;> omega)
    have e_u50 : (va_up u44 73 (nI ((((((((t + 1) + 1) + 1) + 1) + 1) + 1) + 1) + 1))) 73 = (nI ((((((((t + 1) + 1) + 1) + 1) + 1) + 1) + 1) + 1)) := by simp [va_up]
    have e53 : (va_up u44 73 (nI ((((((((t + 1) + 1) + 1) + 1) + 1) + 1) + 1) + 1))) 66 = nI 0 := by simp only [va_up]; exact e47
    generalize va_up u44 73 (nI ((((((((t + 1) + 1) + 1) + 1) + 1) + 1) + 1) + 1)) = u50 at hv51 hm52 e_u50 e53 ⊢
    refine S_iincN (a := 7) (b := 1) (L' := [(6, .int (nI 8)), (7, .int x2), (0, .ref 373), (1, .int x1), (2, .int x2), (3, .int x3), (4, .int x4), (5, .int x5)]) d_Mo_feed_110 (by decide) rfl rfl rfl ?_
    refine ST.lift (fun _ _ k => T_goto (tgt := 23) d_Mo_feed_113 rfl k) ?_
    refine ST.lift (fun _ _ k => T_iload d_Mo_feed_23 rfl k) ?_
    refine ST.lift (fun _ _ k => T_bipush (v := nI 20) d_Mo_feed_25 (by decide) k) ?_
    refine S_icmp_geN d_Mo_feed_27 rfl (by omega) (by omega) (fun c => by first | exact absurd c (by omega) | exact c.elim | exact absurd c (by decide) | exact absurd (by assumption) c | exact absurd c (by assumption)) (fun _ => ?_)
    refine ST.lift (fun _ _ k => T_iload_n d_Mo_feed_30 rfl k) ?_
    refine ST.lift (fun _ _ k => T_istore (L' := [(7, .int x1), (6, .int (nI 8)), (0, .ref 373), (1, .int x1), (2, .int x2), (3, .int x3), (4, .int x4), (5, .int x5)]) d_Mo_feed_31 (by decide) rfl k) ?_
    refine ST.lift (fun _ _ k => T_iload d_Mo_feed_33 rfl k) ?_
    refine ST.lift (fun _ _ k => T_iconst (v := nI 4) d_Mo_feed_35 (by decide) k) ?_
    refine S_icmp_ltN d_Mo_feed_36 rfl (by omega) (by omega) (fun c => by first | exact absurd c (by omega) | exact c.elim | exact absurd c (by decide) | exact absurd (by assumption) c | exact absurd c (by assumption)) (fun _ => ?_)
    refine ST.lift (fun _ _ k => T_iload_n d_Mo_feed_39 rfl k) ?_
    refine ST.lift (fun _ _ k => T_istore (L' := [(7, .int x2), (6, .int (nI 8)), (0, .ref 373), (1, .int x1), (2, .int x2), (3, .int x3), (4, .int x4), (5, .int x5)]) d_Mo_feed_40 (by decide) rfl k) ?_
    refine ST.lift (fun _ _ k => T_iload d_Mo_feed_42 rfl k) ?_
    refine ST.lift (fun _ _ k => T_bipush (v := nI 8) d_Mo_feed_44 (by decide) k) ?_
    refine S_icmp_ltN d_Mo_feed_46 rfl (by omega) (by omega) (fun c => by first | exact absurd c (by omega) | exact c.elim | exact absurd c (by decide) | exact absurd (by assumption) c | exact absurd c (by assumption)) (fun _ => ?_)
    refine ST.lift (fun _ _ k => T_iload_n d_Mo_feed_49 rfl k) ?_
    refine ST.lift (fun _ _ k => T_istore (L' := [(7, .int x3), (6, .int (nI 8)), (0, .ref 373), (1, .int x1), (2, .int x2), (3, .int x3), (4, .int x4), (5, .int x5)]) d_Mo_feed_50 (by decide) rfl k) ?_
    refine ST.lift (fun _ _ k => T_iload d_Mo_feed_52 rfl k) ?_
    refine ST.lift (fun _ _ k => T_bipush (v := nI 12) d_Mo_feed_54 (by decide) k) ?_
    refine S_icmp_ltN d_Mo_feed_56 rfl (by omega) (by omega) (fun _ => ?_) (fun c => by first | exact absurd c (by omega) | exact c.elim | exact absurd c (by decide) | exact absurd (by assumption) c | exact absurd c (by assumption))
    refine ST.lift (fun _ _ k => T_iload d_Mo_feed_63 rfl k) ?_
    refine ST.lift (fun _ _ k => T_bipush (v := nI 16) d_Mo_feed_65 (by decide) k) ?_
    refine S_icmp_ltN d_Mo_feed_67 rfl (by omega) (by omega) (fun _ => ?_) (fun c => by first | exact absurd c (by omega) | exact c.elim | exact absurd c (by decide) | exact absurd (by assumption) c | exact absurd c (by assumption))
    refine ST.lift (fun _ _ k => T_aload_n (v := .ref 373) d_Mo_feed_74 rfl (Or.inr ⟨_, rfl⟩) k) ?_
    refine S_getfield d_Mo_feed_75 fg_Mo_341 (w373 _) rfl ?_
    refine ST.lift (fun _ _ k => T_aload_n (v := .ref 373) d_Mo_feed_78 rfl (Or.inr ⟨_, rfl⟩) k) ?_
    refine S_getfield d_Mo_feed_79 fg_Mo_344 (w373 _) rfl ?_
    refine S_topi (y := nI ((((((((t + 1) + 1) + 1) + 1) + 1) + 1) + 1) + 1)) (e_u50) ?_
    refine ST.lift (fun _ _ k => T_iload d_Mo_feed_82 rfl k) ?_
    refine ST.lift (fun _ _ k => T_bipush (v := nI 24) d_Mo_feed_84 (by decide) k) ?_
    refine ST.lift (fun _ _ k => T_bipush (v := nI 8) d_Mo_feed_86 (by decide) k) ?_
    refine ST.lift (fun _ _ k => T_iload d_Mo_feed_88 rfl k) ?_
    refine ST.lift (fun _ _ k => T_iconst (v := nI 3) d_Mo_feed_90 (by decide) k) ?_
    refine S_iandN 2 d_Mo_feed_91 (by omega) (by decide) (by decide) ?_
    refine S_topi (y := nI 0) (by decide) ?_
    refine S_imulN d_Mo_feed_92 ?_
    refine S_topi (y := nI 0) (by decide) ?_
    refine S_isubN d_Mo_feed_93 (by omega) ?_
    refine S_topi (y := nI 24) (by decide) ?_
    refine ST.lift (fun _ _ k => T_ishr d_Mo_feed_94 k) (S_anyi fun z54 => ?_)
    refine ST.lift (fun _ _ k => T_sipush (v := nI 255) d_Mo_feed_95 (by decide) k) ?_
    refine S_iandM 8 d_Mo_feed_98 (by decide) (by decide) (fun j55 hj55 => ?_)
    simp only [Nat.reducePow] at hj55
    refine S_iastore d_Mo_feed_99 (by decide) a409 (vp_in_nI (by omega) (by omega)) ?_
    refine ST.lift (fun _ _ k => T_aload_n (v := .ref 373) d_Mo_feed_100 rfl (Or.inr ⟨_, rfl⟩) k) ?_
    refine ST.lift (fun _ _ k => T_dup d_Mo_feed_101 rfl k) ?_
    refine S_getfield d_Mo_feed_102 fg_Mo_344 (w373 _) rfl ?_
    refine S_topi (y := nI ((((((((t + 1) + 1) + 1) + 1) + 1) + 1) + 1) + 1)) (e_u50) ?_
    refine ST.lift (fun _ _ k => T_iconst (v := nI 1) d_Mo_feed_105 (by decide) k) ?_
    refine S_iaddN d_Mo_feed_106 ?_
    refine S_putfield (v' := va_up u50 73 (nI (((((((((t + 1) + 1) + 1) + 1) + 1) + 1) + 1) + 1) + 1))) d_Mo_feed_107 (fp_Mo_344 _) (w373 _) (Nat.le_of_ble_eq_true rfl) ⟨rfl, rfl⟩ (u373_43 _ _) ?_
    have hv57 := hv51.up (j := 73) (c := 200) (k := (((((((((t + 1) + 1) + 1) + 1) + 1) + 1) + 1) + 1) + 1)) (by decide) (by omega)
    have hm58 := hm52.go (mdf.up (v := u50) (j := 73) (x := (nI (((((((((t + 1) + 1) + 1) + 1) + 1) + 1) + 1) + 1) + 1)))) (by intro i hi; simp only [List.mem_cons, List.not_mem_nil, or_false] at hi ⊢ <;> omega)
    have e_u56 : (va_up u50 73 (nI (((((((((t + 1) + 1) + 1) + 1) + 1) + 1) + 1) + 1) + 1))) 73 = (nI (((((((((t + 1) + 1) + 1) + 1) + 1) + 1) + 1) + 1) + 1)) := by simp [va_up]
    have e59 : (va_up u50 73 (nI (((((((((t + 1) + 1) + 1) + 1) + 1) + 1) + 1) + 1) + 1))) 66 = nI 0 := by simp only [va_up]; exact e53
    generalize va_up u50 73 (nI (((((((((t + 1) + 1) + 1) + 1) + 1) + 1) + 1) + 1) + 1)) = u56 at hv57 hm58 e_u56 e59 ⊢
    refine S_iincN (a := 8) (b := 1) (L' := [(6, .int (nI 9)), (7, .int x3), (0, .ref 373), (1, .int x1), (2, .int x2), (3, .int x3), (4, .int x4), (5, .int x5)]) d_Mo_feed_110 (by decide) rfl rfl rfl ?_
    refine ST.lift (fun _ _ k => T_goto (tgt := 23) d_Mo_feed_113 rfl k) ?_
    refine ST.lift (fun _ _ k => T_iload d_Mo_feed_23 rfl k) ?_
    refine ST.lift (fun _ _ k => T_bipush (v := nI 20) d_Mo_feed_25 (by decide) k) ?_
    refine S_icmp_geN d_Mo_feed_27 rfl (by omega) (by omega) (fun c => by first | exact absurd c (by omega) | exact c.elim | exact absurd c (by decide) | exact absurd (by assumption) c | exact absurd c (by assumption)) (fun _ => ?_)
    refine ST.lift (fun _ _ k => T_iload_n d_Mo_feed_30 rfl k) ?_
    refine ST.lift (fun _ _ k => T_istore (L' := [(7, .int x1), (6, .int (nI 9)), (0, .ref 373), (1, .int x1), (2, .int x2), (3, .int x3), (4, .int x4), (5, .int x5)]) d_Mo_feed_31 (by decide) rfl k) ?_
    refine ST.lift (fun _ _ k => T_iload d_Mo_feed_33 rfl k) ?_
    refine ST.lift (fun _ _ k => T_iconst (v := nI 4) d_Mo_feed_35 (by decide) k) ?_
    refine S_icmp_ltN d_Mo_feed_36 rfl (by omega) (by omega) (fun c => by first | exact absurd c (by omega) | exact c.elim | exact absurd c (by decide) | exact absurd (by assumption) c | exact absurd c (by assumption)) (fun _ => ?_)
    refine ST.lift (fun _ _ k => T_iload_n d_Mo_feed_39 rfl k) ?_
    refine ST.lift (fun _ _ k => T_istore (L' := [(7, .int x2), (6, .int (nI 9)), (0, .ref 373), (1, .int x1), (2, .int x2), (3, .int x3), (4, .int x4), (5, .int x5)]) d_Mo_feed_40 (by decide) rfl k) ?_
    refine ST.lift (fun _ _ k => T_iload d_Mo_feed_42 rfl k) ?_
    refine ST.lift (fun _ _ k => T_bipush (v := nI 8) d_Mo_feed_44 (by decide) k) ?_
    refine S_icmp_ltN d_Mo_feed_46 rfl (by omega) (by omega) (fun c => by first | exact absurd c (by omega) | exact c.elim | exact absurd c (by decide) | exact absurd (by assumption) c | exact absurd c (by assumption)) (fun _ => ?_)
    refine ST.lift (fun _ _ k => T_iload_n d_Mo_feed_49 rfl k) ?_
    refine ST.lift (fun _ _ k => T_istore (L' := [(7, .int x3), (6, .int (nI 9)), (0, .ref 373), (1, .int x1), (2, .int x2), (3, .int x3), (4, .int x4), (5, .int x5)]) d_Mo_feed_50 (by decide) rfl k) ?_
    refine ST.lift (fun _ _ k => T_iload d_Mo_feed_52 rfl k) ?_
    refine ST.lift (fun _ _ k => T_bipush (v := nI 12) d_Mo_feed_54 (by decide) k) ?_
    refine S_icmp_ltN d_Mo_feed_56 rfl (by omega) (by omega) (fun _ => ?_) (fun c => by first | exact absurd c (by omega) | exact c.elim | exact absurd c (by decide) | exact absurd (by assumption) c | exact absurd c (by assumption))
    refine ST.lift (fun _ _ k => T_iload d_Mo_feed_63 rfl k) ?_
    refine ST.lift (fun _ _ k => T_bipush (v := nI 16) d_Mo_feed_65 (by decide) k) ?_
    refine S_icmp_ltN d_Mo_feed_67 rfl (by omega) (by omega) (fun _ => ?_) (fun c => by first | exact absurd c (by omega) | exact c.elim | exact absurd c (by decide) | exact absurd (by assumption) c | exact absurd c (by assumption))
    refine ST.lift (fun _ _ k => T_aload_n (v := .ref 373) d_Mo_feed_74 rfl (Or.inr ⟨_, rfl⟩) k) ?_
    refine S_getfield d_Mo_feed_75 fg_Mo_341 (w373 _) rfl ?_
    refine ST.lift (fun _ _ k => T_aload_n (v := .ref 373) d_Mo_feed_78 rfl (Or.inr ⟨_, rfl⟩) k) ?_
    refine S_getfield d_Mo_feed_79 fg_Mo_344 (w373 _) rfl ?_
    refine S_topi (y := nI (((((((((t + 1) + 1) + 1) + 1) + 1) + 1) + 1) + 1) + 1)) (e_u56) ?_
    refine ST.lift (fun _ _ k => T_iload d_Mo_feed_82 rfl k) ?_
    refine ST.lift (fun _ _ k => T_bipush (v := nI 24) d_Mo_feed_84 (by decide) k) ?_
    refine ST.lift (fun _ _ k => T_bipush (v := nI 8) d_Mo_feed_86 (by decide) k) ?_
    refine ST.lift (fun _ _ k => T_iload d_Mo_feed_88 rfl k) ?_
    refine ST.lift (fun _ _ k => T_iconst (v := nI 3) d_Mo_feed_90 (by decide) k) ?_
    refine S_iandN 2 d_Mo_feed_91 (by omega) (by decide) (by decide) ?_
    refine S_topi (y := nI 1) (by decide) ?_
    refine S_imulN d_Mo_feed_92 ?_
    refine S_topi (y := nI 8) (by decide) ?_
    refine S_isubN d_Mo_feed_93 (by omega) ?_
    refine S_topi (y := nI 16) (by decide) ?_
    refine ST.lift (fun _ _ k => T_ishr d_Mo_feed_94 k) (S_anyi fun z60 => ?_)
    refine ST.lift (fun _ _ k => T_sipush (v := nI 255) d_Mo_feed_95 (by decide) k) ?_
    refine S_iandM 8 d_Mo_feed_98 (by decide) (by decide) (fun j61 hj61 => ?_)
    simp only [Nat.reducePow] at hj61
    refine S_iastore d_Mo_feed_99 (by decide) a409 (vp_in_nI (by omega) (by omega)) ?_
    refine ST.lift (fun _ _ k => T_aload_n (v := .ref 373) d_Mo_feed_100 rfl (Or.inr ⟨_, rfl⟩) k) ?_
    refine ST.lift (fun _ _ k => T_dup d_Mo_feed_101 rfl k) ?_
    refine S_getfield d_Mo_feed_102 fg_Mo_344 (w373 _) rfl ?_
    refine S_topi (y := nI (((((((((t + 1) + 1) + 1) + 1) + 1) + 1) + 1) + 1) + 1)) (e_u56) ?_
    refine ST.lift (fun _ _ k => T_iconst (v := nI 1) d_Mo_feed_105 (by decide) k) ?_
    refine S_iaddN d_Mo_feed_106 ?_
    refine S_putfield (v' := va_up u56 73 (nI ((((((((((t + 1) + 1) + 1) + 1) + 1) + 1) + 1) + 1) + 1) + 1))) d_Mo_feed_107 (fp_Mo_344 _) (w373 _) (Nat.le_of_ble_eq_true rfl) ⟨rfl, rfl⟩ (u373_43 _ _) ?_
    have hv63 := hv57.up (j := 73) (c := 200) (k := ((((((((((t + 1) + 1) + 1) + 1) + 1) + 1) + 1) + 1) + 1) + 1)) (by decide) (by omega)
    have hm64 := hm58.go (mdf.up (v := u56) (j := 73) (x := (nI ((((((((((t + 1) + 1) + 1) + 1) + 1) + 1) + 1) + 1) + 1) + 1)))) (by intro i hi; simp only [List.mem_cons, List.not_mem_nil, or_false] at hi ⊢ <;> omega)
    have e_u62 : (va_up u56 73 (nI ((((((((((t + 1) + 1) + 1) + 1) + 1) + 1) + 1) + 1) + 1) + 1))) 73 = (nI ((((((((((t + 1) + 1) + 1) + 1) + 1) + 1) + 1) + 1) + 1) + 1)) := by simp [va_up]
    have e65 : (va_up u56 73 (nI ((((((((((t + 1) + 1) + 1) + 1) + 1) + 1) + 1) + 1) + 1) + 1))) 66 = nI 0 := by simp only [va_up]; exact e59
    generalize va_up u56 73 (nI ((((((((((t + 1) + 1) + 1) + 1) + 1) + 1) + 1) + 1) + 1) + 1)) = u62 at hv63 hm64 e_u62 e65 ⊢
    refine S_iincN (a := 9) (b := 1) (L' := [(6, .int (nI 10)), (7, .int x3), (0, .ref 373), (1, .int x1), (2, .int x2), (3, .int x3), (4, .int x4), (5, .int x5)]) d_Mo_feed_110 (by decide) rfl rfl rfl ?_
    refine ST.lift (fun _ _ k => T_goto (tgt := 23) d_Mo_feed_113 rfl k) ?_
    refine ST.lift (fun _ _ k => T_iload d_Mo_feed_23 rfl k) ?_
    refine ST.lift (fun _ _ k => T_bipush (v := nI 20) d_Mo_feed_25 (by decide) k) ?_
    refine S_icmp_geN d_Mo_feed_27 rfl (by omega) (by omega) (fun c => by first | exact absurd c (by omega) | exact c.elim | exact absurd c (by decide) | exact absurd (by assumption) c | exact absurd c (by assumption)) (fun _ => ?_)
    refine ST.lift (fun _ _ k => T_iload_n d_Mo_feed_30 rfl k) ?_
    refine ST.lift (fun _ _ k => T_istore (L' := [(7, .int x1), (6, .int (nI 10)), (0, .ref 373), (1, .int x1), (2, .int x2), (3, .int x3), (4, .int x4), (5, .int x5)]) d_Mo_feed_31 (by decide) rfl k) ?_
    refine ST.lift (fun _ _ k => T_iload d_Mo_feed_33 rfl k) ?_
    refine ST.lift (fun _ _ k => T_iconst (v := nI 4) d_Mo_feed_35 (by decide) k) ?_
    refine S_icmp_ltN d_Mo_feed_36 rfl (by omega) (by omega) (fun c => by first | exact absurd c (by omega) | exact c.elim | exact absurd c (by decide) | exact absurd (by assumption) c | exact absurd c (by assumption)) (fun _ => ?_)
    refine ST.lift (fun _ _ k => T_iload_n d_Mo_feed_39 rfl k) ?_
    refine ST.lift (fun _ _ k => T_istore (L' := [(7, .int x2), (6, .int (nI 10)), (0, .ref 373), (1, .int x1), (2, .int x2), (3, .int x3), (4, .int x4), (5, .int x5)]) d_Mo_feed_40 (by decide) rfl k) ?_
    refine ST.lift (fun _ _ k => T_iload d_Mo_feed_42 rfl k) ?_
    refine ST.lift (fun _ _ k => T_bipush (v := nI 8) d_Mo_feed_44 (by decide) k) ?_
    refine S_icmp_ltN d_Mo_feed_46 rfl (by omega) (by omega) (fun c => by first | exact absurd c (by omega) | exact c.elim | exact absurd c (by decide) | exact absurd (by assumption) c | exact absurd c (by assumption)) (fun _ => ?_)
    refine ST.lift (fun _ _ k => T_iload_n d_Mo_feed_49 rfl k) ?_
    refine ST.lift (fun _ _ k => T_istore (L' := [(7, .int x3), (6, .int (nI 10)), (0, .ref 373), (1, .int x1), (2, .int x2), (3, .int x3), (4, .int x4), (5, .int x5)]) d_Mo_feed_50 (by decide) rfl k) ?_
    refine ST.lift (fun _ _ k => T_iload d_Mo_feed_52 rfl k) ?_
    refine ST.lift (fun _ _ k => T_bipush (v := nI 12) d_Mo_feed_54 (by decide) k) ?_
    refine S_icmp_ltN d_Mo_feed_56 rfl (by omega) (by omega) (fun _ => ?_) (fun c => by first | exact absurd c (by omega) | exact c.elim | exact absurd c (by decide) | exact absurd (by assumption) c | exact absurd c (by assumption))
    refine ST.lift (fun _ _ k => T_iload d_Mo_feed_63 rfl k) ?_
    refine ST.lift (fun _ _ k => T_bipush (v := nI 16) d_Mo_feed_65 (by decide) k) ?_
    refine S_icmp_ltN d_Mo_feed_67 rfl (by omega) (by omega) (fun _ => ?_) (fun c => by first | exact absurd c (by omega) | exact c.elim | exact absurd c (by decide) | exact absurd (by assumption) c | exact absurd c (by assumption))
    refine ST.lift (fun _ _ k => T_aload_n (v := .ref 373) d_Mo_feed_74 rfl (Or.inr ⟨_, rfl⟩) k) ?_
    refine S_getfield d_Mo_feed_75 fg_Mo_341 (w373 _) rfl ?_
    refine ST.lift (fun _ _ k => T_aload_n (v := .ref 373) d_Mo_feed_78 rfl (Or.inr ⟨_, rfl⟩) k) ?_
    refine S_getfield d_Mo_feed_79 fg_Mo_344 (w373 _) rfl ?_
    refine S_topi (y := nI ((((((((((t + 1) + 1) + 1) + 1) + 1) + 1) + 1) + 1) + 1) + 1)) (e_u62) ?_
    refine ST.lift (fun _ _ k => T_iload d_Mo_feed_82 rfl k) ?_
    refine ST.lift (fun _ _ k => T_bipush (v := nI 24) d_Mo_feed_84 (by decide) k) ?_
    refine ST.lift (fun _ _ k => T_bipush (v := nI 8) d_Mo_feed_86 (by decide) k) ?_
    refine ST.lift (fun _ _ k => T_iload d_Mo_feed_88 rfl k) ?_
    refine ST.lift (fun _ _ k => T_iconst (v := nI 3) d_Mo_feed_90 (by decide) k) ?_
    refine S_iandN 2 d_Mo_feed_91 (by omega) (by decide) (by decide) ?_
    refine S_topi (y := nI 2) (by decide) ?_
    refine S_imulN d_Mo_feed_92 ?_
    refine S_topi (y := nI 16) (by decide) ?_
    refine S_isubN d_Mo_feed_93 (by omega) ?_
    refine S_topi (y := nI 8) (by decide) ?_
    refine ST.lift (fun _ _ k => T_ishr d_Mo_feed_94 k) (S_anyi fun z66 => ?_)
    refine ST.lift (fun _ _ k => T_sipush (v := nI 255) d_Mo_feed_95 (by decide) k) ?_
    refine S_iandM 8 d_Mo_feed_98 (by decide) (by decide) (fun j67 hj67 => ?_)
    simp only [Nat.reducePow] at hj67
    refine S_iastore d_Mo_feed_99 (by decide) a409 (vp_in_nI (by omega) (by omega)) ?_
    refine ST.lift (fun _ _ k => T_aload_n (v := .ref 373) d_Mo_feed_100 rfl (Or.inr ⟨_, rfl⟩) k) ?_
    refine ST.lift (fun _ _ k => T_dup d_Mo_feed_101 rfl k) ?_
    refine S_getfield d_Mo_feed_102 fg_Mo_344 (w373 _) rfl ?_
    refine S_topi (y := nI ((((((((((t + 1) + 1) + 1) + 1) + 1) + 1) + 1) + 1) + 1) + 1)) (e_u62) ?_
    refine ST.lift (fun _ _ k => T_iconst (v := nI 1) d_Mo_feed_105 (by decide) k) ?_
    refine S_iaddN d_Mo_feed_106 ?_
    refine S_putfield (v' := va_up u62 73 (nI (((((((((((t + 1) + 1) + 1) + 1) + 1) + 1) + 1) + 1) + 1) + 1) + 1))) d_Mo_feed_107 (fp_Mo_344 _) (w373 _) (Nat.le_of_ble_eq_true rfl) ⟨rfl, rfl⟩ (u373_43 _ _) ?_
    have hv69 := hv63.up (j := 73) (c := 200) (k := (((((((((((t + 1) + 1) + 1) + 1) + 1) + 1) + 1) + 1) + 1) + 1) + 1)) (by decide) (by omega)
    have hm70 := hm64.go (mdf.up (v := u62) (j := 73) (x := (nI (((((((((((t + 1) + 1) + 1) + 1) + 1) + 1) + 1) + 1) + 1) + 1) + 1)))) (by intro i hi; simp only [List.mem_cons, List.not_mem_nil, or_false] at hi ⊢ <;> omega)
    have e_u68 : (va_up u62 73 (nI (((((((((((t + 1) + 1) + 1) + 1) + 1) + 1) + 1) + 1) + 1) + 1) + 1))) 73 = (nI (((((((((((t + 1) + 1) + 1) + 1) + 1) + 1) + 1) + 1) + 1) + 1) + 1)) := by simp [va_up]
    have e71 : (va_up u62 73 (nI (((((((((((t + 1) + 1) + 1) + 1) + 1) + 1) + 1) + 1) + 1) + 1) + 1))) 66 = nI 0 := by simp only [va_up]; exact e65
    generalize va_up u62 73 (nI (((((((((((t + 1) + 1) + 1) + 1) + 1) + 1) + 1) + 1) + 1) + 1) + 1)) = u68 at hv69 hm70 e_u68 e71 ⊢
    refine S_iincN (a := 10) (b := 1) (L' := [(6, .int (nI 11)), (7, .int x3), (0, .ref 373), (1, .int x1), (2, .int x2), (3, .int x3), (4, .int x4), (5, .int x5)]) d_Mo_feed_110 (by decide) rfl rfl rfl ?_
    refine ST.lift (fun _ _ k => T_goto (tgt := 23) d_Mo_feed_113 rfl k) ?_
    refine ST.lift (fun _ _ k => T_iload d_Mo_feed_23 rfl k) ?_
    refine ST.lift (fun _ _ k => T_bipush (v := nI 20) d_Mo_feed_25 (by decide) k) ?_
    refine S_icmp_geN d_Mo_feed_27 rfl (by omega) (by omega) (fun c => by first | exact absurd c (by omega) | exact c.elim | exact absurd c (by decide) | exact absurd (by assumption) c | exact absurd c (by assumption)) (fun _ => ?_)
    refine ST.lift (fun _ _ k => T_iload_n d_Mo_feed_30 rfl k) ?_
    refine ST.lift (fun _ _ k => T_istore (L' := [(7, .int x1), (6, .int (nI 11)), (0, .ref 373), (1, .int x1), (2, .int x2), (3, .int x3), (4, .int x4), (5, .int x5)]) d_Mo_feed_31 (by decide) rfl k) ?_
    refine ST.lift (fun _ _ k => T_iload d_Mo_feed_33 rfl k) ?_
    refine ST.lift (fun _ _ k => T_iconst (v := nI 4) d_Mo_feed_35 (by decide) k) ?_
    refine S_icmp_ltN d_Mo_feed_36 rfl (by omega) (by omega) (fun c => by first | exact absurd c (by omega) | exact c.elim | exact absurd c (by decide) | exact absurd (by assumption) c | exact absurd c (by assumption)) (fun _ => ?_)
    refine ST.lift (fun _ _ k => T_iload_n d_Mo_feed_39 rfl k) ?_
    refine ST.lift (fun _ _ k => T_istore (L' := [(7, .int x2), (6, .int (nI 11)), (0, .ref 373), (1, .int x1), (2, .int x2), (3, .int x3), (4, .int x4), (5, .int x5)]) d_Mo_feed_40 (by decide) rfl k) ?_
    refine ST.lift (fun _ _ k => T_iload d_Mo_feed_42 rfl k) ?_
    refine ST.lift (fun _ _ k => T_bipush (v := nI 8) d_Mo_feed_44 (by decide) k) ?_
    refine S_icmp_ltN d_Mo_feed_46 rfl (by omega) (by omega) (fun c => by first | exact absurd c (by omega) | exact c.elim | exact absurd c (by decide) | exact absurd (by assumption) c | exact absurd c (by assumption)) (fun _ => ?_)
    refine ST.lift (fun _ _ k => T_iload_n d_Mo_feed_49 rfl k) ?_
    refine ST.lift (fun _ _ k => T_istore (L' := [(7, .int x3), (6, .int (nI 11)), (0, .ref 373), (1, .int x1), (2, .int x2), (3, .int x3), (4, .int x4), (5, .int x5)]) d_Mo_feed_50 (by decide) rfl k) ?_
    refine ST.lift (fun _ _ k => T_iload d_Mo_feed_52 rfl k) ?_
    refine ST.lift (fun _ _ k => T_bipush (v := nI 12) d_Mo_feed_54 (by decide) k) ?_
    refine S_icmp_ltN d_Mo_feed_56 rfl (by omega) (by omega) (fun _ => ?_) (fun c => by first | exact absurd c (by omega) | exact c.elim | exact absurd c (by decide) | exact absurd (by assumption) c | exact absurd c (by assumption))
    refine ST.lift (fun _ _ k => T_iload d_Mo_feed_63 rfl k) ?_
    refine ST.lift (fun _ _ k => T_bipush (v := nI 16) d_Mo_feed_65 (by decide) k) ?_
    refine S_icmp_ltN d_Mo_feed_67 rfl (by omega) (by omega) (fun _ => ?_) (fun c => by first | exact absurd c (by omega) | exact c.elim | exact absurd c (by decide) | exact absurd (by assumption) c | exact absurd c (by assumption))
    refine ST.lift (fun _ _ k => T_aload_n (v := .ref 373) d_Mo_feed_74 rfl (Or.inr ⟨_, rfl⟩) k) ?_
    refine S_getfield d_Mo_feed_75 fg_Mo_341 (w373 _) rfl ?_
    refine ST.lift (fun _ _ k => T_aload_n (v := .ref 373) d_Mo_feed_78 rfl (Or.inr ⟨_, rfl⟩) k) ?_
    refine S_getfield d_Mo_feed_79 fg_Mo_344 (w373 _) rfl ?_
    refine S_topi (y := nI (((((((((((t + 1) + 1) + 1) + 1) + 1) + 1) + 1) + 1) + 1) + 1) + 1)) (e_u68) ?_
    refine ST.lift (fun _ _ k => T_iload d_Mo_feed_82 rfl k) ?_
    refine ST.lift (fun _ _ k => T_bipush (v := nI 24) d_Mo_feed_84 (by decide) k) ?_
    refine ST.lift (fun _ _ k => T_bipush (v := nI 8) d_Mo_feed_86 (by decide) k) ?_
    refine ST.lift (fun _ _ k => T_iload d_Mo_feed_88 rfl k) ?_
    refine ST.lift (fun _ _ k => T_iconst (v := nI 3) d_Mo_feed_90 (by decide) k) ?_
    refine S_iandN 2 d_Mo_feed_91 (by omega) (by decide) (by decide) ?_
    refine S_topi (y := nI 3) (by decide) ?_
    refine S_imulN d_Mo_feed_92 ?_
    refine S_topi (y := nI 24) (by decide) ?_
    refine S_isubN d_Mo_feed_93 (by omega) ?_
    refine S_topi (y := nI 0) (by decide) ?_
    refine ST.lift (fun _ _ k => T_ishr d_Mo_feed_94 k) (S_anyi fun z72 => ?_)
    refine ST.lift (fun _ _ k => T_sipush (v := nI 255) d_Mo_feed_95 (by decide) k) ?_
    refine S_iandM 8 d_Mo_feed_98 (by decide) (by decide) (fun j73 hj73 => ?_)
    simp only [Nat.reducePow] at hj73
    refine S_iastore d_Mo_feed_99 (by decide) a409 (vp_in_nI (by omega) (by omega)) ?_
    refine ST.lift (fun _ _ k => T_aload_n (v := .ref 373) d_Mo_feed_100 rfl (Or.inr ⟨_, rfl⟩) k) ?_
    refine ST.lift (fun _ _ k => T_dup d_Mo_feed_101 rfl k) ?_
    refine S_getfield d_Mo_feed_102 fg_Mo_344 (w373 _) rfl ?_
    refine S_topi (y := nI (((((((((((t + 1) + 1) + 1) + 1) + 1) + 1) + 1) + 1) + 1) + 1) + 1)) (e_u68) ?_
    refine ST.lift (fun _ _ k => T_iconst (v := nI 1) d_Mo_feed_105 (by decide) k) ?_
    refine S_iaddN d_Mo_feed_106 ?_
    refine S_putfield (v' := va_up u68 73 (nI ((((((((((((t + 1) + 1) + 1) + 1) + 1) + 1) + 1) + 1) + 1) + 1) + 1) + 1))) d_Mo_feed_107 (fp_Mo_344 _) (w373 _) (Nat.le_of_ble_eq_true rfl) ⟨rfl, rfl⟩ (u373_43 _ _) ?_
    have hv75 := hv69.up (j := 73) (c := 200) (k := ((((((((((((t + 1) + 1) + 1) + 1) + 1) + 1) + 1) + 1) + 1) + 1) + 1) + 1)) (by decide) (by omega)
    have hm76 := hm70.go (mdf.up (v := u68) (j := 73) (x := (nI ((((((((((((t + 1) + 1) + 1) + 1) + 1) + 1) + 1) + 1) + 1) + 1) + 1) + 1)))) (by intro i hi; simp only [List.mem_cons, List.not_mem_nil, or_false] at hi ⊢ <;> omega)
    have e_u74 : (va_up u68 73 (nI ((((((((((((t + 1) + 1) + 1) + 1) + 1) + 1) + 1) + 1) + 1) + 1) + 1) + 1))) 73 = (nI ((((((((((((t + 1) + 1) + 1) + 1) + 1) + 1) + 1) + 1) + 1) + 1) + 1) + 1)) := by simp [va_up]
    have e77 : (va_up u68 73 (nI ((((((((((((t + 1) + 1) + 1) + 1) + 1) + 1) + 1) + 1) + 1) + 1) + 1) + 1))) 66 = nI 0 := by simp only [va_up]; exact e71
    generalize va_up u68 73 (nI ((((((((((((t + 1) + 1) + 1) + 1) + 1) + 1) + 1) + 1) + 1) + 1) + 1) + 1)) = u74 at hv75 hm76 e_u74 e77 ⊢
    refine S_iincN (a := 11) (b := 1) (L' := [(6, .int (nI 12)), (7, .int x3), (0, .ref 373), (1, .int x1), (2, .int x2), (3, .int x3), (4, .int x4), (5, .int x5)]) d_Mo_feed_110 (by decide) rfl rfl rfl ?_
    refine ST.lift (fun _ _ k => T_goto (tgt := 23) d_Mo_feed_113 rfl k) ?_
    refine ST.lift (fun _ _ k => T_iload d_Mo_feed_23 rfl k) ?_
    refine ST.lift (fun _ _ k => T_bipush (v := nI 20) d_Mo_feed_25 (by decide) k) ?_
    refine S_icmp_geN d_Mo_feed_27 rfl (by omega) (by omega) (fun c => by first | exact absurd c (by omega) | exact c.elim | exact absurd c (by decide) | exact absurd (by assumption) c | exact absurd c (by assumption)) (fun _ => ?_)
    refine ST.lift (fun _ _ k => T_iload_n d_Mo_feed_30 rfl k) ?_
    refine ST.lift (fun _ _ k => T_istore (L' := [(7, .int x1), (6, .int (nI 12)), (0, .ref 373), (1, .int x1), (2, .int x2), (3, .int x3), (4, .int x4), (5, .int x5)]) d_Mo_feed_31 (by decide) rfl k) ?_
    refine ST.lift (fun _ _ k => T_iload d_Mo_feed_33 rfl k) ?_
    refine ST.lift (fun _ _ k => T_iconst (v := nI 4) d_Mo_feed_35 (by decide) k) ?_
    refine S_icmp_ltN d_Mo_feed_36 rfl (by omega) (by omega) (fun c => by first | exact absurd c (by omega) | exact c.elim | exact absurd c (by decide) | exact absurd (by assumption) c | exact absurd c (by assumption)) (fun _ => ?_)
    refine ST.lift (fun _ _ k => T_iload_n d_Mo_feed_39 rfl k) ?_
    refine ST.lift (fun _ _ k => T_istore (L' := [(7, .int x2), (6, .int (nI 12)), (0, .ref 373), (1, .int x1), (2, .int x2), (3, .int x3), (4, .int x4), (5, .int x5)]) d_Mo_feed_40 (by decide) rfl k) ?_
    refine ST.lift (fun _ _ k => T_iload d_Mo_feed_42 rfl k) ?_
    refine ST.lift (fun _ _ k => T_bipush (v := nI 8) d_Mo_feed_44 (by decide) k) ?_
    refine S_icmp_ltN d_Mo_feed_46 rfl (by omega) (by omega) (fun c => by first | exact absurd c (by omega) | exact c.elim | exact absurd c (by decide) | exact absurd (by assumption) c | exact absurd c (by assumption)) (fun _ => ?_)
    refine ST.lift (fun _ _ k => T_iload_n d_Mo_feed_49 rfl k) ?_
    refine ST.lift (fun _ _ k => T_istore (L' := [(7, .int x3), (6, .int (nI 12)), (0, .ref 373), (1, .int x1), (2, .int x2), (3, .int x3), (4, .int x4), (5, .int x5)]) d_Mo_feed_50 (by decide) rfl k) ?_
    refine ST.lift (fun _ _ k => T_iload d_Mo_feed_52 rfl k) ?_
    refine ST.lift (fun _ _ k => T_bipush (v := nI 12) d_Mo_feed_54 (by decide) k) ?_
    refine S_icmp_ltN d_Mo_feed_56 rfl (by omega) (by omega) (fun c => by first | exact absurd c (by omega) | exact c.elim | exact absurd c (by decide) | exact absurd (by assumption) c | exact absurd c (by assumption)) (fun _ => ?_)
    refine ST.lift (fun _ _ k => T_iload d_Mo_feed_59 rfl k) ?_
    refine ST.lift (fun _ _ k => T_istore (L' := [(7, .int x4), (6, .int (nI 12)), (0, .ref 373), (1, .int x1), (2, .int x2), (3, .int x3), (4, .int x4), (5, .int x5)]) d_Mo_feed_61 (by decide) rfl k) ?_
    refine ST.lift (fun _ _ k => T_iload d_Mo_feed_63 rfl k) ?_
    refine ST.lift (fun _ _ k => T_bipush (v := nI 16) d_Mo_feed_65 (by decide) k) ?_
    refine S_icmp_ltN d_Mo_feed_67 rfl (by omega) (by omega) (fun _ => ?_) (fun c => by first | exact absurd c (by omega) | exact c.elim | exact absurd c (by decide) | exact absurd (by assumption) c | exact absurd c (by assumption))
    refine ST.lift (fun _ _ k => T_aload_n (v := .ref 373) d_Mo_feed_74 rfl (Or.inr ⟨_, rfl⟩) k) ?_
    refine S_getfield d_Mo_feed_75 fg_Mo_341 (w373 _) rfl ?_
    refine ST.lift (fun _ _ k => T_aload_n (v := .ref 373) d_Mo_feed_78 rfl (Or.inr ⟨_, rfl⟩) k) ?_
    refine S_getfield d_Mo_feed_79 fg_Mo_344 (w373 _) rfl ?_
    refine S_topi (y := nI ((((((((((((t + 1) + 1) + 1) + 1) + 1) + 1) + 1) + 1) + 1) + 1) + 1) + 1)) (e_u74) ?_
    refine ST.lift (fun _ _ k => T_iload d_Mo_feed_82 rfl k) ?_
    refine ST.lift (fun _ _ k => T_bipush (v := nI 24) d_Mo_feed_84 (by decide) k) ?_
    refine ST.lift (fun _ _ k => T_bipush (v := nI 8) d_Mo_feed_86 (by decide) k) ?_
    refine ST.lift (fun _ _ k => T_iload d_Mo_feed_88 rfl k) ?_
    refine ST.lift (fun _ _ k => T_iconst (v := nI 3) d_Mo_feed_90 (by decide) k) ?_
    refine S_iandN 2 d_Mo_feed_91 (by omega) (by decide) (by decide) ?_
    refine S_topi (y := nI 0) (by decide) ?_
    refine S_imulN d_Mo_feed_92 ?_
    refine S_topi (y := nI 0) (by decide) ?_
    refine S_isubN d_Mo_feed_93 (by omega) ?_
    refine S_topi (y := nI 24) (by decide) ?_
    refine ST.lift (fun _ _ k => T_ishr d_Mo_feed_94 k) (S_anyi fun z78 => ?_)
    refine ST.lift (fun _ _ k => T_sipush (v := nI 255) d_Mo_feed_95 (by decide) k) ?_
    refine S_iandM 8 d_Mo_feed_98 (by decide) (by decide) (fun j79 hj79 => ?_)
    simp only [Nat.reducePow] at hj79
    refine S_iastore d_Mo_feed_99 (by decide) a409 (vp_in_nI (by omega) (by omega)) ?_
    refine ST.lift (fun _ _ k => T_aload_n (v := .ref 373) d_Mo_feed_100 rfl (Or.inr ⟨_, rfl⟩) k) ?_
    refine ST.lift (fun _ _ k => T_dup d_Mo_feed_101 rfl k) ?_
    refine S_getfield d_Mo_feed_102 fg_Mo_344 (w373 _) rfl ?_
    refine S_topi (y := nI ((((((((((((t + 1) + 1) + 1) + 1) + 1) + 1) + 1) + 1) + 1) + 1) + 1) + 1)) (e_u74) ?_
    refine ST.lift (fun _ _ k => T_iconst (v := nI 1) d_Mo_feed_105 (by decide) k) ?_
    refine S_iaddN d_Mo_feed_106 ?_
    refine S_putfield (v' := va_up u74 73 (nI (((((((((((((t + 1) + 1) + 1) + 1) + 1) + 1) + 1) + 1) + 1) + 1) + 1) + 1) + 1))) d_Mo_feed_107 (fp_Mo_344 _) (w373 _) (Nat.le_of_ble_eq_true rfl) ⟨rfl, rfl⟩ (u373_43 _ _) ?_
    have hv81 := hv75.up (j := 73) (c := 200) (k := (((((((((((((t + 1) + 1) + 1) + 1) + 1) + 1) + 1) + 1) + 1) + 1) + 1) + 1) + 1)) (by decide) (by omega)
    have hm82 := hm76.go (mdf.up (v := u74) (j := 73) (x := (nI (((((((((((((t + 1) + 1) + 1) + 1) + 1) + 1) + 1) + 1) + 1) + 1) + 1) + 1) + 1)))) (by intro i hi; simp only [List.mem_cons, List.not_mem_nil, or_false] at hi ⊢ <;> omega)
    have e_u80 : (va_up u74 73 (nI (((((((((((((t + 1) + 1) + 1) + 1) + 1) + 1) + 1) + 1) + 1) + 1) + 1) + 1) + 1))) 73 = (nI (((((((((((((t + 1) + 1) + 1) + 1) + 1) + 1) + 1) + 1) + 1) + 1) + 1) + 1) + 1)) := by simp [va_up]
    have e83 : (va_up u74 73 (nI (((((((((((((t + 1) + 1) + 1) + 1) + 1) + 1) + 1) + 1) + 1) + 1) + 1) + 1) + 1))) 66 = nI 0 := by simp only [va_up]; exact e77
    generalize va_up u74 73 (nI (((((((((((((t + 1) + 1) + 1) + 1) + 1) + 1) + 1) + 1) + 1) + 1) + 1) + 1) + 1)) = u80 at hv81 hm82 e_u80 e83 ⊢
    refine S_iincN (a := 12) (b := 1) (L' := [(6, .int (nI 13)), (7, .int x4), (0, .ref 373), (1, .int x1), (2, .int x2), (3, .int x3), (4, .int x4), (5, .int x5)]) d_Mo_feed_110 (by decide) rfl rfl rfl ?_
    refine ST.lift (fun _ _ k => T_goto (tgt := 23) d_Mo_feed_113 rfl k) ?_
    refine ST.lift (fun _ _ k => T_iload d_Mo_feed_23 rfl k) ?_
    refine ST.lift (fun _ _ k => T_bipush (v := nI 20) d_Mo_feed_25 (by decide) k) ?_
    refine S_icmp_geN d_Mo_feed_27 rfl (by omega) (by omega) (fun c => by first | exact absurd c (by omega) | exact c.elim | exact absurd c (by decide) | exact absurd (by assumption) c | exact absurd c (by assumption)) (fun _ => ?_)
    refine ST.lift (fun _ _ k => T_iload_n d_Mo_feed_30 rfl k) ?_
    refine ST.lift (fun _ _ k => T_istore (L' := [(7, .int x1), (6, .int (nI 13)), (0, .ref 373), (1, .int x1), (2, .int x2), (3, .int x3), (4, .int x4), (5, .int x5)]) d_Mo_feed_31 (by decide) rfl k) ?_
    refine ST.lift (fun _ _ k => T_iload d_Mo_feed_33 rfl k) ?_
    refine ST.lift (fun _ _ k => T_iconst (v := nI 4) d_Mo_feed_35 (by decide) k) ?_
    refine S_icmp_ltN d_Mo_feed_36 rfl (by omega) (by omega) (fun c => by first | exact absurd c (by omega) | exact c.elim | exact absurd c (by decide) | exact absurd (by assumption) c | exact absurd c (by assumption)) (fun _ => ?_)
    refine ST.lift (fun _ _ k => T_iload_n d_Mo_feed_39 rfl k) ?_
    refine ST.lift (fun _ _ k => T_istore (L' := [(7, .int x2), (6, .int (nI 13)), (0, .ref 373), (1, .int x1), (2, .int x2), (3, .int x3), (4, .int x4), (5, .int x5)]) d_Mo_feed_40 (by decide) rfl k) ?_
    refine ST.lift (fun _ _ k => T_iload d_Mo_feed_42 rfl k) ?_
    refine ST.lift (fun _ _ k => T_bipush (v := nI 8) d_Mo_feed_44 (by decide) k) ?_
    refine S_icmp_ltN d_Mo_feed_46 rfl (by omega) (by omega) (fun c => by first | exact absurd c (by omega) | exact c.elim | exact absurd c (by decide) | exact absurd (by assumption) c | exact absurd c (by assumption)) (fun _ => ?_)
    refine ST.lift (fun _ _ k => T_iload_n d_Mo_feed_49 rfl k) ?_
    refine ST.lift (fun _ _ k => T_istore (L' := [(7, .int x3), (6, .int (nI 13)), (0, .ref 373), (1, .int x1), (2, .int x2), (3, .int x3), (4, .int x4), (5, .int x5)]) d_Mo_feed_50 (by decide) rfl k) ?_
    refine ST.lift (fun _ _ k => T_iload d_Mo_feed_52 rfl k) ?_
    refine ST.lift (fun _ _ k => T_bipush (v := nI 12) d_Mo_feed_54 (by decide) k) ?_
    refine S_icmp_ltN d_Mo_feed_56 rfl (by omega) (by omega) (fun c => by first | exact absurd c (by omega) | exact c.elim | exact absurd c (by decide) | exact absurd (by assumption) c | exact absurd c (by assumption)) (fun _ => ?_)
    refine ST.lift (fun _ _ k => T_iload d_Mo_feed_59 rfl k) ?_
    refine ST.lift (fun _ _ k => T_istore (L' := [(7, .int x4), (6, .int (nI 13)), (0, .ref 373), (1, .int x1), (2, .int x2), (3, .int x3), (4, .int x4), (5, .int x5)]) d_Mo_feed_61 (by decide) rfl k) ?_
    refine ST.lift (fun _ _ k => T_iload d_Mo_feed_63 rfl k) ?_
    refine ST.lift (fun _ _ k => T_bipush (v := nI 16) d_Mo_feed_65 (by decide) k) ?_
    refine S_icmp_ltN d_Mo_feed_67 rfl (by omega) (by omega) (fun _ => ?_) (fun c => by first | exact absurd c (by omega) | exact c.elim | exact absurd c (by decide) | exact absurd (by assumption) c | exact absurd c (by assumption))
    refine ST.lift (fun _ _ k => T_aload_n (v := .ref 373) d_Mo_feed_74 rfl (Or.inr ⟨_, rfl⟩) k) ?_
    refine S_getfield d_Mo_feed_75 fg_Mo_341 (w373 _) rfl ?_
    refine ST.lift (fun _ _ k => T_aload_n (v := .ref 373) d_Mo_feed_78 rfl (Or.inr ⟨_, rfl⟩) k) ?_
    refine S_getfield d_Mo_feed_79 fg_Mo_344 (w373 _) rfl ?_
    refine S_topi (y := nI (((((((((((((t + 1) + 1) + 1) + 1) + 1) + 1) + 1) + 1) + 1) + 1) + 1) + 1) + 1)) (e_u80) ?_
    refine ST.lift (fun _ _ k => T_iload d_Mo_feed_82 rfl k) ?_
    refine ST.lift (fun _ _ k => T_bipush (v := nI 24) d_Mo_feed_84 (by decide) k) ?_
    refine ST.lift (fun _ _ k => T_bipush (v := nI 8) d_Mo_feed_86 (by decide) k) ?_
    refine ST.lift (fun _ _ k => T_iload d_Mo_feed_88 rfl k) ?_
    refine ST.lift (fun _ _ k => T_iconst (v := nI 3) d_Mo_feed_90 (by decide) k) ?_
    refine S_iandN 2 d_Mo_feed_91 (by omega) (by decide) (by decide) ?_
    refine S_topi (y := nI 1) (by decide) ?_
    refine S_imulN d_Mo_feed_92 ?_
    refine S_topi (y := nI 8) (by decide) ?_
    refine S_isubN d_Mo_feed_93 (by omega) ?_
    refine S_topi (y := nI 16) (by decide) ?_
    refine ST.lift (fun _ _ k => T_ishr d_Mo_feed_94 k) (S_anyi fun z84 => ?_)
    refine ST.lift (fun _ _ k => T_sipush (v := nI 255) d_Mo_feed_95 (by decide) k) ?_
    refine S_iandM 8 d_Mo_feed_98 (by decide) (by decide) (fun j85 hj85 => ?_)
    simp only [Nat.reducePow] at hj85
    refine S_iastore d_Mo_feed_99 (by decide) a409 (vp_in_nI (by omega) (by omega)) ?_
    refine ST.lift (fun _ _ k => T_aload_n (v := .ref 373) d_Mo_feed_100 rfl (Or.inr ⟨_, rfl⟩) k) ?_
    refine ST.lift (fun _ _ k => T_dup d_Mo_feed_101 rfl k) ?_
    refine S_getfield d_Mo_feed_102 fg_Mo_344 (w373 _) rfl ?_
    refine S_topi (y := nI (((((((((((((t + 1) + 1) + 1) + 1) + 1) + 1) + 1) + 1) + 1) + 1) + 1) + 1) + 1)) (e_u80) ?_
    refine ST.lift (fun _ _ k => T_iconst (v := nI 1) d_Mo_feed_105 (by decide) k) ?_
    refine S_iaddN d_Mo_feed_106 ?_
    refine S_putfield (v' := va_up u80 73 (nI ((((((((((((((t + 1) + 1) + 1) + 1) + 1) + 1) + 1) + 1) + 1) + 1) + 1) + 1) + 1) + 1))) d_Mo_feed_107 (fp_Mo_344 _) (w373 _) (Nat.le_of_ble_eq_true rfl) ⟨rfl, rfl⟩ (u373_43 _ _) ?_
    have hv87 := hv81.up (j := 73) (c := 200) (k := ((((((((((((((t + 1) + 1) + 1) + 1) + 1) + 1) + 1) + 1) + 1) + 1) + 1) + 1) + 1) + 1)) (by decide) (by omega)
    have hm88 := hm82.go (mdf.up (v := u80) (j := 73) (x := (nI ((((((((((((((t + 1) + 1) + 1) + 1) + 1) + 1) + 1) + 1) + 1) + 1) + 1) + 1) + 1) + 1)))) (by intro i hi; simp only [List.mem_cons, List.not_mem_nil, or_false] at hi ⊢ <;> omega)
    have e_u86 : (va_up u80 73 (nI ((((((((((((((t + 1) + 1) + 1) + 1) + 1) + 1) + 1) + 1) + 1) + 1) + 1) + 1) + 1) + 1))) 73 = (nI ((((((((((((((t + 1) + 1) + 1) + 1) + 1) + 1) + 1) + 1) + 1) + 1) + 1) + 1) + 1) + 1)) := by simp [va_up]
    have e89 : (va_up u80 73 (nI ((((((((((((((t + 1) + 1) + 1) + 1) + 1) + 1) + 1) + 1) + 1) + 1) + 1) + 1) + 1) + 1))) 66 = nI 0 := by simp only [va_up]; exact e83
    generalize va_up u80 73 (nI ((((((((((((((t + 1) + 1) + 1) + 1) + 1) + 1) + 1) + 1) + 1) + 1) + 1) + 1) + 1) + 1)) = u86 at hv87 hm88 e_u86 e89 ⊢
    refine S_iincN (a := 13) (b := 1) (L' := [(6, .int (nI 14)), (7, .int x4), (0, .ref 373), (1, .int x1), (2, .int x2), (3, .int x3), (4, .int x4), (5, .int x5)]) d_Mo_feed_110 (by decide) rfl rfl rfl ?_
    refine ST.lift (fun _ _ k => T_goto (tgt := 23) d_Mo_feed_113 rfl k) ?_
    refine ST.lift (fun _ _ k => T_iload d_Mo_feed_23 rfl k) ?_
    refine ST.lift (fun _ _ k => T_bipush (v := nI 20) d_Mo_feed_25 (by decide) k) ?_
    refine S_icmp_geN d_Mo_feed_27 rfl (by omega) (by omega) (fun c => by first | exact absurd c (by omega) | exact c.elim | exact absurd c (by decide) | exact absurd (by assumption) c | exact absurd c (by assumption)) (fun _ => ?_)
    refine ST.lift (fun _ _ k => T_iload_n d_Mo_feed_30 rfl k) ?_
    refine ST.lift (fun _ _ k => T_istore (L' := [(7, .int x1), (6, .int (nI 14)), (0, .ref 373), (1, .int x1), (2, .int x2), (3, .int x3), (4, .int x4), (5, .int x5)]) d_Mo_feed_31 (by decide) rfl k) ?_
    refine ST.lift (fun _ _ k => T_iload d_Mo_feed_33 rfl k) ?_
    refine ST.lift (fun _ _ k => T_iconst (v := nI 4) d_Mo_feed_35 (by decide) k) ?_
    refine S_icmp_ltN d_Mo_feed_36 rfl (by omega) (by omega) (fun c => by first | exact absurd c (by omega) | exact c.elim | exact absurd c (by decide) | exact absurd (by assumption) c | exact absurd c (by assumption)) (fun _ => ?_)
    refine ST.lift (fun _ _ k => T_iload_n d_Mo_feed_39 rfl k) ?_
    refine ST.lift (fun _ _ k => T_istore (L' := [(7, .int x2), (6, .int (nI 14)), (0, .ref 373), (1, .int x1), (2, .int x2), (3, .int x3), (4, .int x4), (5, .int x5)]) d_Mo_feed_40 (by decide) rfl k) ?_
    refine ST.lift (fun _ _ k => T_iload d_Mo_feed_42 rfl k) ?_
    refine ST.lift (fun _ _ k => T_bipush (v := nI 8) d_Mo_feed_44 (by decide) k) ?_
    refine S_icmp_ltN d_Mo_feed_46 rfl (by omega) (by omega) (fun c => by first | exact absurd c (by omega) | exact c.elim | exact absurd c (by decide) | exact absurd (by assumption) c | exact absurd c (by assumption)) (fun _ => ?_)
    refine ST.lift (fun _ _ k => T_iload_n d_Mo_feed_49 rfl k) ?_
    refine ST.lift (fun _ _ k => T_istore (L' := [(7, .int x3), (6, .int (nI 14)), (0, .ref 373), (1, .int x1), (2, .int x2), (3, .int x3), (4, .int x4), (5, .int x5)]) d_Mo_feed_50 (by decide) rfl k) ?_
    refine ST.lift (fun _ _ k => T_iload d_Mo_feed_52 rfl k) ?_
    refine ST.lift (fun _ _ k => T_bipush (v := nI 12) d_Mo_feed_54 (by decide) k) ?_
    refine S_icmp_ltN d_Mo_feed_56 rfl (by omega) (by omega) (fun c => by first | exact absurd c (by omega) | exact c.elim | exact absurd c (by decide) | exact absurd (by assumption) c | exact absurd c (by assumption)) (fun _ => ?_)
    refine ST.lift (fun _ _ k => T_iload d_Mo_feed_59 rfl k) ?_
    refine ST.lift (fun _ _ k => T_istore (L' := [(7, .int x4), (6, .int (nI 14)), (0, .ref 373), (1, .int x1), (2, .int x2), (3, .int x3), (4, .int x4), (5, .int x5)]) d_Mo_feed_61 (by decide) rfl k) ?_
    refine ST.lift (fun _ _ k => T_iload d_Mo_feed_63 rfl k) ?_
    refine ST.lift (fun _ _ k => T_bipush (v := nI 16) d_Mo_feed_65 (by decide) k) ?_
    refine S_icmp_ltN d_Mo_feed_67 rfl (by omega) (by omega) (fun _ => ?_) (fun c => by first | exact absurd c (by omega) | exact c.elim | exact absurd c (by decide) | exact absurd (by assumption) c | exact absurd c (by assumption))
    refine ST.lift (fun _ _ k => T_aload_n (v := .ref 373) d_Mo_feed_74 rfl (Or.inr ⟨_, rfl⟩) k) ?_
    refine S_getfield d_Mo_feed_75 fg_Mo_341 (w373 _) rfl ?_
    refine ST.lift (fun _ _ k => T_aload_n (v := .ref 373) d_Mo_feed_78 rfl (Or.inr ⟨_, rfl⟩) k) ?_
    refine S_getfield d_Mo_feed_79 fg_Mo_344 (w373 _) rfl ?_
    refine S_topi (y := nI ((((((((((((((t + 1) + 1) + 1) + 1) + 1) + 1) + 1) + 1) + 1) + 1) + 1) + 1) + 1) + 1)) (e_u86) ?_
    refine ST.lift (fun _ _ k => T_iload d_Mo_feed_82 rfl k) ?_
    refine ST.lift (fun _ _ k => T_bipush (v := nI 24) d_Mo_feed_84 (by decide) k) ?_
    refine ST.lift (fun _ _ k => T_bipush (v := nI 8) d_Mo_feed_86 (by decide) k) ?_
    refine ST.lift (fun _ _ k => T_iload d_Mo_feed_88 rfl k) ?_
    refine ST.lift (fun _ _ k => T_iconst (v := nI 3) d_Mo_feed_90 (by decide) k) ?_
    refine S_iandN 2 d_Mo_feed_91 (by omega) (by decide) (by decide) ?_
    refine S_topi (y := nI 2) (by decide) ?_
    refine S_imulN d_Mo_feed_92 ?_
    refine S_topi (y := nI 16) (by decide) ?_
    refine S_isubN d_Mo_feed_93 (by omega) ?_
    refine S_topi (y := nI 8) (by decide) ?_
    refine ST.lift (fun _ _ k => T_ishr d_Mo_feed_94 k) (S_anyi fun z90 => ?_)
    refine ST.lift (fun _ _ k => T_sipush (v := nI 255) d_Mo_feed_95 (by decide) k) ?_
    refine S_iandM 8 d_Mo_feed_98 (by decide) (by decide) (fun j91 hj91 => ?_)
    simp only [Nat.reducePow] at hj91
    refine S_iastore d_Mo_feed_99 (by decide) a409 (vp_in_nI (by omega) (by omega)) ?_
    refine ST.lift (fun _ _ k => T_aload_n (v := .ref 373) d_Mo_feed_100 rfl (Or.inr ⟨_, rfl⟩) k) ?_
    refine ST.lift (fun _ _ k => T_dup d_Mo_feed_101 rfl k) ?_
    refine S_getfield d_Mo_feed_102 fg_Mo_344 (w373 _) rfl ?_
    refine S_topi (y := nI ((((((((((((((t + 1) + 1) + 1) + 1) + 1) + 1) + 1) + 1) + 1) + 1) + 1) + 1) + 1) + 1)) (e_u86) ?_
    refine ST.lift (fun _ _ k => T_iconst (v := nI 1) d_Mo_feed_105 (by decide) k) ?_
    refine S_iaddN d_Mo_feed_106 ?_
    refine S_putfield (v' := va_up u86 73 (nI (((((((((((((((t + 1) + 1) + 1) + 1) + 1) + 1) + 1) + 1) + 1) + 1) + 1) + 1) + 1) + 1) + 1))) d_Mo_feed_107 (fp_Mo_344 _) (w373 _) (Nat.le_of_ble_eq_true rfl) ⟨rfl, rfl⟩ (u373_43 _ _) ?_
    have hv93 := hv87.up (j := 73) (c := 200) (k := (((((((((((((((t + 1) + 1) + 1) + 1) + 1) + 1) + 1) + 1) + 1) + 1) + 1) + 1) + 1) + 1) + 1)) (by decide) (by omega)
    have hm94 := hm88.go (mdf.up (v := u86) (j := 73) (x := (nI (((((((((((((((t + 1) + 1) + 1) + 1) + 1) + 1) + 1) + 1) + 1) + 1) + 1) + 1) + 1) + 1) + 1)))) (by intro i hi; simp only [List.mem_cons, List.not_mem_nil, or_false] at hi ⊢ <;> omega)
    have e_u92 : (va_up u86 73 (nI (((((((((((((((t + 1) + 1) + 1) + 1) + 1) + 1) + 1) + 1) + 1) + 1) + 1) + 1) + 1) + 1) + 1))) 73 = (nI (((((((((((((((t + 1) + 1) + 1) + 1) + 1) + 1) + 1) + 1) + 1) + 1) + 1) + 1) + 1) + 1) + 1)) := by simp [va_up]
    have e95 : (va_up u86 73 (nI (((((((((((((((t + 1) + 1) + 1) + 1) + 1) + 1) + 1) + 1) + 1) + 1) + 1) + 1) + 1) + 1) + 1))) 66 = nI 0 := by simp only [va_up]; exact e89
    generalize va_up u86 73 (nI (((((((((((((((t + 1) + 1) + 1) + 1) + 1) + 1) + 1) + 1) + 1) + 1) + 1) + 1) + 1) + 1) + 1)) = u92 at hv93 hm94 e_u92 e95 ⊢
    refine S_iincN (a := 14) (b := 1) (L' := [(6, .int (nI 15)), (7, .int x4), (0, .ref 373), (1, .int x1), (2, .int x2), (3, .int x3), (4, .int x4), (5, .int x5)]) d_Mo_feed_110 (by decide) rfl rfl rfl ?_
    refine ST.lift (fun _ _ k => T_goto (tgt := 23) d_Mo_feed_113 rfl k) ?_
    refine ST.lift (fun _ _ k => T_iload d_Mo_feed_23 rfl k) ?_
    refine ST.lift (fun _ _ k => T_bipush (v := nI 20) d_Mo_feed_25 (by decide) k) ?_
    refine S_icmp_geN d_Mo_feed_27 rfl (by omega) (by omega) (fun c => by first | exact absurd c (by omega) | exact c.elim | exact absurd c (by decide) | exact absurd (by assumption) c | exact absurd c (by assumption)) (fun _ => ?_)
    refine ST.lift (fun _ _ k => T_iload_n d_Mo_feed_30 rfl k) ?_
    refine ST.lift (fun _ _ k => T_istore (L' := [(7, .int x1), (6, .int (nI 15)), (0, .ref 373), (1, .int x1), (2, .int x2), (3, .int x3), (4, .int x4), (5, .int x5)]) d_Mo_feed_31 (by decide) rfl k) ?_
    refine ST.lift (fun _ _ k => T_iload d_Mo_feed_33 rfl k) ?_
    refine ST.lift (fun _ _ k => T_iconst (v := nI 4) d_Mo_feed_35 (by decide) k) ?_
    refine S_icmp_ltN d_Mo_feed_36 rfl (by omega) (by omega) (fun c => by first | exact absurd c (by omega) | exact c.elim | exact absurd c (by decide) | exact absurd (by assumption) c | exact absurd c (by assumption)) (fun _ => ?_)
    refine ST.lift (fun _ _ k => T_iload_n d_Mo_feed_39 rfl k) ?_
    refine ST.lift (fun _ _ k => T_istore (L' := [(7, .int x2), (6, .int (nI 15)), (0, .ref 373), (1, .int x1), (2, .int x2), (3, .int x3), (4, .int x4), (5, .int x5)]) d_Mo_feed_40 (by decide) rfl k) ?_
    refine ST.lift (fun _ _ k => T_iload d_Mo_feed_42 rfl k) ?_
    refine ST.lift (fun _ _ k => T_bipush (v := nI 8) d_Mo_feed_44 (by decide) k) ?_
    refine S_icmp_ltN d_Mo_feed_46 rfl (by omega) (by omega) (fun c => by first | exact absurd c (by omega) | exact c.elim | exact absurd c (by decide) | exact absurd (by assumption) c | exact absurd c (by assumption)) (fun _ => ?_)
    refine ST.lift (fun _ _ k => T_iload_n d_Mo_feed_49 rfl k) ?_
    refine ST.lift (fun _ _ k => T_istore (L' := [(7, .int x3), (6, .int (nI 15)), (0, .ref 373), (1, .int x1), (2, .int x2), (3, .int x3), (4, .int x4), (5, .int x5)]) d_Mo_feed_50 (by decide) rfl k) ?_
    refine ST.lift (fun _ _ k => T_iload d_Mo_feed_52 rfl k) ?_
    refine ST.lift (fun _ _ k => T_bipush (v := nI 12) d_Mo_feed_54 (by decide) k) ?_
    refine S_icmp_ltN d_Mo_feed_56 rfl (by omega) (by omega) (fun c => by first | exact absurd c (by omega) | exact c.elim | exact absurd c (by decide) | exact absurd (by assumption) c | exact absurd c (by assumption)) (fun _ => ?_)
    refine ST.lift (fun _ _ k => T_iload d_Mo_feed_59 rfl k) ?_
    refine ST.lift (fun _ _ k => T_istore (L' := [(7, .int x4), (6, .int (nI 15)), (0, .ref 373), (1, .int x1), (2, .int x2), (3, .int x3), (4, .int x4), (5, .int x5)]) d_Mo_feed_61 (by decide) rfl k) ?_
    refine ST.lift (fun _ _ k => T_iload d_Mo_feed_63 rfl k) ?_
    refine ST.lift (fun _ _ k => T_bipush (v := nI 16) d_Mo_feed_65 (by decide) k) ?_
    refine S_icmp_ltN d_Mo_feed_67 rfl (by omega) (by omega) (fun _ => ?_) (fun c => by first | exact absurd c (by omega) | exact c.elim | exact absurd c (by decide) | exact absurd (by assumption) c | exact absurd c (by assumption))
    refine ST.lift (fun _ _ k => T_aload_n (v := .ref 373) d_Mo_feed_74 rfl (Or.inr ⟨_, rfl⟩) k) ?_
    refine S_getfield d_Mo_feed_75 fg_Mo_341 (w373 _) rfl ?_
    refine ST.lift (fun _ _ k => T_aload_n (v := .ref 373) d_Mo_feed_78 rfl (Or.inr ⟨_, rfl⟩) k) ?_
    refine S_getfield d_Mo_feed_79 fg_Mo_344 (w373 _) rfl ?_
    refine S_topi (y := nI (((((((((((((((t + 1) + 1) + 1) + 1) + 1) + 1) + 1) + 1) + 1) + 1) + 1) + 1) + 1) + 1) + 1)) (e_u92) ?_
    refine ST.lift (fun _ _ k => T_iload d_Mo_feed_82 rfl k) ?_
    refine ST.lift (fun _ _ k => T_bipush (v := nI 24) d_Mo_feed_84 (by decide) k) ?_
    refine ST.lift (fun _ _ k => T_bipush (v := nI 8) d_Mo_feed_86 (by decide) k) ?_
    refine ST.lift (fun _ _ k => T_iload d_Mo_feed_88 rfl k) ?_
    refine ST.lift (fun _ _ k => T_iconst (v := nI 3) d_Mo_feed_90 (by decide) k) ?_
    refine S_iandN 2 d_Mo_feed_91 (by omega) (by decide) (by decide) ?_
    refine S_topi (y := nI 3) (by decide) ?_
    refine S_imulN d_Mo_feed_92 ?_
    refine S_topi (y := nI 24) (by decide) ?_
    refine S_isubN d_Mo_feed_93 (by omega) ?_
    refine S_topi (y := nI 0) (by decide) ?_
    refine ST.lift (fun _ _ k => T_ishr d_Mo_feed_94 k) (S_anyi fun z96 => ?_)
    refine ST.lift (fun _ _ k => T_sipush (v := nI 255) d_Mo_feed_95 (by decide) k) ?_
    refine S_iandM 8 d_Mo_feed_98 (by decide) (by decide) (fun j97 hj97 => ?_)
    simp only [Nat.reducePow] at hj97
    refine S_iastore d_Mo_feed_99 (by decide) a409 (vp_in_nI (by omega) (by omega)) ?_
    refine ST.lift (fun _ _ k => T_aload_n (v := .ref 373) d_Mo_feed_100 rfl (Or.inr ⟨_, rfl⟩) k) ?_
    refine ST.lift (fun _ _ k => T_dup d_Mo_feed_101 rfl k) ?_
    refine S_getfield d_Mo_feed_102 fg_Mo_344 (w373 _) rfl ?_
    refine S_topi (y := nI (((((((((((((((t + 1) + 1) + 1) + 1) + 1) + 1) + 1) + 1) + 1) + 1) + 1) + 1) + 1) + 1) + 1)) (e_u92) ?_
    refine ST.lift (fun _ _ k => T_iconst (v := nI 1) d_Mo_feed_105 (by decide) k) ?_
    refine S_iaddN d_Mo_feed_106 ?_
    refine S_putfield (v' := va_up u92 73 (nI ((((((((((((((((t + 1) + 1) + 1) + 1) + 1) + 1) + 1) + 1) + 1) + 1) + 1) + 1) + 1) + 1) + 1) + 1))) d_Mo_feed_107 (fp_Mo_344 _) (w373 _) (Nat.le_of_ble_eq_true rfl) ⟨rfl, rfl⟩ (u373_43 _ _) ?_
    have hv99 := hv93.up (j := 73) (c := 200) (k := ((((((((((((((((t + 1) + 1) + 1) + 1) + 1) + 1) + 1) + 1) + 1) + 1) + 1) + 1) + 1) + 1) + 1) + 1)) (by decide) (by omega)
    have hm100 := hm94.go (mdf.up (v := u92) (j := 73) (x := (nI ((((((((((((((((t + 1) + 1) + 1) + 1) + 1) + 1) + 1) + 1) + 1) + 1) + 1) + 1) + 1) + 1) + 1) + 1)))) (by intro i hi; simp only [List.mem_cons, List.not_mem_nil, or_false] at hi ⊢ <;> omega)
    have e_u98 : (va_up u92 73 (nI ((((((((((((((((t + 1) + 1) + 1) + 1) + 1) + 1) + 1) + 1) + 1) + 1) + 1) + 1) + 1) + 1) + 1) + 1))) 73 = (nI ((((((((((((((((t + 1) + 1) + 1) + 1) + 1) + 1) + 1) + 1) + 1) + 1) + 1) + 1) + 1) + 1) + 1) + 1)) := by simp [va_up]
    have e101 : (va_up u92 73 (nI ((((((((((((((((t + 1) + 1) + 1) + 1) + 1) + 1) + 1) + 1) + 1) + 1) + 1) + 1) + 1) + 1) + 1) + 1))) 66 = nI 0 := by simp only [va_up]; exact e95
    generalize va_up u92 73 (nI ((((((((((((((((t + 1) + 1) + 1) + 1) + 1) + 1) + 1) + 1) + 1) + 1) + 1) + 1) + 1) + 1) + 1) + 1)) = u98 at hv99 hm100 e_u98 e101 ⊢
    refine S_iincN (a := 15) (b := 1) (L' := [(6, .int (nI 16)), (7, .int x4), (0, .ref 373), (1, .int x1), (2, .int x2), (3, .int x3), (4, .int x4), (5, .int x5)]) d_Mo_feed_110 (by decide) rfl rfl rfl ?_
    refine ST.lift (fun _ _ k => T_goto (tgt := 23) d_Mo_feed_113 rfl k) ?_
    refine ST.lift (fun _ _ k => T_iload d_Mo_feed_23 rfl k) ?_
    refine ST.lift (fun _ _ k => T_bipush (v := nI 20) d_Mo_feed_25 (by decide) k) ?_
    refine S_icmp_geN d_Mo_feed_27 rfl (by omega) (by omega) (fun c => by first | exact absurd c (by omega) | exact c.elim | exact absurd c (by decide) | exact absurd (by assumption) c | exact absurd c (by assumption)) (fun _ => ?_)
    refine ST.lift (fun _ _ k => T_iload_n d_Mo_feed_30 rfl k) ?_
    refine ST.lift (fun _ _ k => T_istore (L' := [(7, .int x1), (6, .int (nI 16)), (0, .ref 373), (1, .int x1), (2, .int x2), (3, .int x3), (4, .int x4), (5, .int x5)]) d_Mo_feed_31 (by decide) rfl k) ?_
    refine ST.lift (fun _ _ k => T_iload d_Mo_feed_33 rfl k) ?_
    refine ST.lift (fun _ _ k => T_iconst (v := nI 4) d_Mo_feed_35 (by decide) k) ?_
    refine S_icmp_ltN d_Mo_feed_36 rfl (by omega) (by omega) (fun c => by first | exact absurd c (by omega) | exact c.elim | exact absurd c (by decide) | exact absurd (by assumption) c | exact absurd c (by assumption)) (fun _ => ?_)
    refine ST.lift (fun _ _ k => T_iload_n d_Mo_feed_39 rfl k) ?_
    refine ST.lift (fun _ _ k => T_istore (L' := [(7, .int x2), (6, .int (nI 16)), (0, .ref 373), (1, .int x1), (2, .int x2), (3, .int x3), (4, .int x4), (5, .int x5)]) d_Mo_feed_40 (by decide) rfl k) ?_
    refine ST.lift (fun _ _ k => T_iload d_Mo_feed_42 rfl k) ?_
    refine ST.lift (fun _ _ k => T_bipush (v := nI 8) d_Mo_feed_44 (by decide) k) ?_
    refine S_icmp_ltN d_Mo_feed_46 rfl (by omega) (by omega) (fun c => by first | exact absurd c (by omega) | exact c.elim | exact absurd c (by decide) | exact absurd (by assumption) c | exact absurd c (by assumption)) (fun _ => ?_)
    refine ST.lift (fun _ _ k => T_iload_n d_Mo_feed_49 rfl k) ?_
    refine ST.lift (fun _ _ k => T_istore (L' := [(7, .int x3), (6, .int (nI 16)), (0, .ref 373), (1, .int x1), (2, .int x2), (3, .int x3), (4, .int x4), (5, .int x5)]) d_Mo_feed_50 (by decide) rfl k) ?_
    refine ST.lift (fun _ _ k => T_iload d_Mo_feed_52 rfl k) ?_
    refine ST.lift (fun _ _ k => T_bipush (v := nI 12) d_Mo_feed_54 (by decide) k) ?_
    refine S_icmp_ltN d_Mo_feed_56 rfl (by omega) (by omega) (fun c => by first | exact absurd c (by omega) | exact c.elim | exact absurd c (by decide) | exact absurd (by assumption) c | exact absurd c (by assumption)) (fun _ => ?_)
    refine ST.lift (fun _ _ k => T_iload d_Mo_feed_59 rfl k) ?_
    refine ST.lift (fun _ _ k => T_istore (L' := [(7, .int x4), (6, .int (nI 16)), (0, .ref 373), (1, .int x1), (2, .int x2), (3, .int x3), (4, .int x4), (5, .int x5)]) d_Mo_feed_61 (by decide) rfl k) ?_
    refine ST.lift (fun _ _ k => T_iload d_Mo_feed_63 rfl k) ?_
    refine ST.lift (fun _ _ k => T_bipush (v := nI 16) d_Mo_feed_65 (by decide) k) ?_
    refine S_icmp_ltN d_Mo_feed_67 rfl (by omega) (by omega) (fun c => by first | exact absurd c (by omega) | exact c.elim | exact absurd c (by decide) | exact absurd (by assumption) c | exact absurd c (by assumption)) (fun _ => ?_)
    refine ST.lift (fun _ _ k => T_iload d_Mo_feed_70 rfl k) ?_
    refine ST.lift (fun _ _ k => T_istore (L' := [(7, .int x5), (6, .int (nI 16)), (0, .ref 373), (1, .int x1), (2, .int x2), (3, .int x3), (4, .int x4), (5, .int x5)]) d_Mo_feed_72 (by decide) rfl k) ?_
    refine ST.lift (fun _ _ k => T_aload_n (v := .ref 373) d_Mo_feed_74 rfl (Or.inr ⟨_, rfl⟩) k) ?_
    refine S_getfield d_Mo_feed_75 fg_Mo_341 (w373 _) rfl ?_
    refine ST.lift (fun _ _ k => T_aload_n (v := .ref 373) d_Mo_feed_78 rfl (Or.inr ⟨_, rfl⟩) k) ?_
    refine S_getfield d_Mo_feed_79 fg_Mo_344 (w373 _) rfl ?_
    refine S_topi (y := nI ((((((((((((((((t + 1) + 1) + 1) + 1) + 1) + 1) + 1) + 1) + 1) + 1) + 1) + 1) + 1) + 1) + 1) + 1)) (e_u98) ?_
    refine ST.lift (fun _ _ k => T_iload d_Mo_feed_82 rfl k) ?_
    refine ST.lift (fun _ _ k => T_bipush (v := nI 24) d_Mo_feed_84 (by decide) k) ?_
    refine ST.lift (fun _ _ k => T_bipush (v := nI 8) d_Mo_feed_86 (by decide) k) ?_
    refine ST.lift (fun _ _ k => T_iload d_Mo_feed_88 rfl k) ?_
    refine ST.lift (fun _ _ k => T_iconst (v := nI 3) d_Mo_feed_90 (by decide) k) ?_
    refine S_iandN 2 d_Mo_feed_91 (by omega) (by decide) (by decide) ?_
    refine S_topi (y := nI 0) (by decide) ?_
    refine S_imulN d_Mo_feed_92 ?_
    refine S_topi (y := nI 0) (by decide) ?_
    refine S_isubN d_Mo_feed_93 (by omega) ?_
    refine S_topi (y := nI 24) (by decide) ?_
    refine ST.lift (fun _ _ k => T_ishr d_Mo_feed_94 k) (S_anyi fun z102 => ?_)
    refine ST.lift (fun _ _ k => T_sipush (v := nI 255) d_Mo_feed_95 (by decide) k) ?_
    refine S_iandM 8 d_Mo_feed_98 (by decide) (by decide) (fun j103 hj103 => ?_)
    simp only [Nat.reducePow] at hj103
    refine S_iastore d_Mo_feed_99 (by decide) a409 (vp_in_nI (by omega) (by omega)) ?_
    refine ST.lift (fun _ _ k => T_aload_n (v := .ref 373) d_Mo_feed_100 rfl (Or.inr ⟨_, rfl⟩) k) ?_
    refine ST.lift (fun _ _ k => T_dup d_Mo_feed_101 rfl k) ?_
    refine S_getfield d_Mo_feed_102 fg_Mo_344 (w373 _) rfl ?_
    refine S_topi (y := nI ((((((((((((((((t + 1) + 1) + 1) + 1) + 1) + 1) + 1) + 1) + 1) + 1) + 1) + 1) + 1) + 1) + 1) + 1)) (e_u98) ?_
    refine ST.lift (fun _ _ k => T_iconst (v := nI 1) d_Mo_feed_105 (by decide) k) ?_
    refine S_iaddN d_Mo_feed_106 ?_
    refine S_putfield (v' := va_up u98 73 (nI (((((((((((((((((t + 1) + 1) + 1) + 1) + 1) + 1) + 1) + 1) + 1) + 1) + 1) + 1) + 1) + 1) + 1) + 1) + 1))) d_Mo_feed_107 (fp_Mo_344 _) (w373 _) (Nat.le_of_ble_eq_true rfl) ⟨rfl, rfl⟩ (u373_43 _ _) ?_
    have hv105 := hv99.up (j := 73) (c := 200) (k := (((((((((((((((((t + 1) + 1) + 1) + 1) + 1) + 1) + 1) + 1) + 1) + 1) + 1) + 1) + 1) + 1) + 1) + 1) + 1)) (by decide) (by omega)
    have hm106 := hm100.go (mdf.up (v := u98) (j := 73) (x := (nI (((((((((((((((((t + 1) + 1) + 1) + 1) + 1) + 1) + 1) + 1) + 1) + 1) + 1) + 1) + 1) + 1) + 1) + 1) + 1)))) (by intro i hi; simp only [List.mem_cons, List.not_mem_nil, or_false] at hi ⊢ <;> omega)
    have e_u104 : (va_up u98 73 (nI (((((((((((((((((t + 1) + 1) + 1) + 1) + 1) + 1) + 1) + 1) + 1) + 1) + 1) + 1) + 1) + 1) + 1) + 1) + 1))) 73 = (nI (((((((((((((((((t + 1) + 1) + 1) + 1) + 1) + 1) + 1) + 1) + 1) + 1) + 1) + 1) + 1) + 1) + 1) + 1) + 1)) := by simp [va_up]
    have e107 : (va_up u98 73 (nI (((((((((((((((((t + 1) + 1) + 1) + 1) + 1) + 1) + 1) + 1) + 1) + 1) + 1) + 1) + 1) + 1) + 1) + 1) + 1))) 66 = nI 0 := by simp only [va_up]; exact e101
    generalize va_up u98 73 (nI (((((((((((((((((t + 1) + 1) + 1) + 1) + 1) + 1) + 1) + 1) + 1) + 1) + 1) + 1) + 1) + 1) + 1) + 1) + 1)) = u104 at hv105 hm106 e_u104 e107 ⊢
    refine S_iincN (a := 16) (b := 1) (L' := [(6, .int (nI 17)), (7, .int x5), (0, .ref 373), (1, .int x1), (2, .int x2), (3, .int x3), (4, .int x4), (5, .int x5)]) d_Mo_feed_110 (by decide) rfl rfl rfl ?_
    refine ST.lift (fun _ _ k => T_goto (tgt := 23) d_Mo_feed_113 rfl k) ?_
    refine ST.lift (fun _ _ k => T_iload d_Mo_feed_23 rfl k) ?_
    refine ST.lift (fun _ _ k => T_bipush (v := nI 20) d_Mo_feed_25 (by decide) k) ?_
    refine S_icmp_geN d_Mo_feed_27 rfl (by omega) (by omega) (fun c => by first | exact absurd c (by omega) | exact c.elim | exact absurd c (by decide) | exact absurd (by assumption) c | exact absurd c (by assumption)) (fun _ => ?_)
    refine ST.lift (fun _ _ k => T_iload_n d_Mo_feed_30 rfl k) ?_
    refine ST.lift (fun _ _ k => T_istore (L' := [(7, .int x1), (6, .int (nI 17)), (0, .ref 373), (1, .int x1), (2, .int x2), (3, .int x3), (4, .int x4), (5, .int x5)]) d_Mo_feed_31 (by decide) rfl k) ?_
    refine ST.lift (fun _ _ k => T_iload d_Mo_feed_33 rfl k) ?_
    refine ST.lift (fun _ _ k => T_iconst (v := nI 4) d_Mo_feed_35 (by decide) k) ?_
    refine S_icmp_ltN d_Mo_feed_36 rfl (by omega) (by omega) (fun c => by first | exact absurd c (by omega) | exact c.elim | exact absurd c (by decide) | exact absurd (by assumption) c | exact absurd c (by assumption)) (fun _ => ?_)
    refine ST.lift (fun _ _ k => T_iload_n d_Mo_feed_39 rfl k) ?_
    refine ST.lift (fun _ _ k => T_istore (L' := [(7, .int x2), (6, .int (nI 17)), (0, .ref 373), (1, .int x1), (2, .int x2), (3, .int x3), (4, .int x4), (5, .int x5)]) d_Mo_feed_40 (by decide) rfl k) ?_
    refine ST.lift (fun _ _ k => T_iload d_Mo_feed_42 rfl k) ?_
    refine ST.lift (fun _ _ k => T_bipush (v := nI 8) d_Mo_feed_44 (by decide) k) ?_
    refine S_icmp_ltN d_Mo_feed_46 rfl (by omega) (by omega) (fun c => by first | exact absurd c (by omega) | exact c.elim | exact absurd c (by decide) | exact absurd (by assumption) c | exact absurd c (by assumption)) (fun _ => ?_)
    refine ST.lift (fun _ _ k => T_iload_n d_Mo_feed_49 rfl k) ?_
    refine ST.lift (fun _ _ k => T_istore (L' := [(7, .int x3), (6, .int (nI 17)), (0, .ref 373), (1, .int x1), (2, .int x2), (3, .int x3), (4, .int x4), (5, .int x5)]) d_Mo_feed_50 (by decide) rfl k) ?_
    refine ST.lift (fun _ _ k => T_iload d_Mo_feed_52 rfl k) ?_
    refine ST.lift (fun _ _ k => T_bipush (v := nI 12) d_Mo_feed_54 (by decide) k) ?_
    refine S_icmp_ltN d_Mo_feed_56 rfl (by omega) (by omega) (fun c => by first | exact absurd c (by omega) | exact c.elim | exact absurd c (by decide) | exact absurd (by assumption) c | exact absurd c (by assumption)) (fun _ => ?_)
    refine ST.lift (fun _ _ k => T_iload d_Mo_feed_59 rfl k) ?_
    refine ST.lift (fun _ _ k => T_istore (L' := [(7, .int x4), (6, .int (nI 17)), (0, .ref 373), (1, .int x1), (2, .int x2), (3, .int x3), (4, .int x4), (5, .int x5)]) d_Mo_feed_61 (by decide) rfl k) ?_
    refine ST.lift (fun _ _ k => T_iload d_Mo_feed_63 rfl k) ?_
    refine ST.lift (fun _ _ k => T_bipush (v := nI 16) d_Mo_feed_65 (by decide) k) ?_
    refine S_icmp_ltN d_Mo_feed_67 rfl (by omega) (by omega) (fun c => by first | exact absurd c (by omega) | exact c.elim | exact absurd c (by decide) | exact absurd (by assumption) c | exact absurd c (by assumption)) (fun _ => ?_)
    refine ST.lift (fun _ _ k => T_iload d_Mo_feed_70 rfl k) ?_
    refine ST.lift (fun _ _ k => T_istore (L' := [(7, .int x5), (6, .int (nI 17)), (0, .ref 373), (1, .int x1), (2, .int x2), (3, .int x3), (4, .int x4), (5, .int x5)]) d_Mo_feed_72 (by decide) rfl k) ?_
    refine ST.lift (fun _ _ k => T_aload_n (v := .ref 373) d_Mo_feed_74 rfl (Or.inr ⟨_, rfl⟩) k) ?_
    refine S_getfield d_Mo_feed_75 fg_Mo_341 (w373 _) rfl ?_
    refine ST.lift (fun _ _ k => T_aload_n (v := .ref 373) d_Mo_feed_78 rfl (Or.inr ⟨_, rfl⟩) k) ?_
    refine S_getfield d_Mo_feed_79 fg_Mo_344 (w373 _) rfl ?_
    refine S_topi (y := nI (((((((((((((((((t + 1) + 1) + 1) + 1) + 1) + 1) + 1) + 1) + 1) + 1) + 1) + 1) + 1) + 1) + 1) + 1) + 1)) (e_u104) ?_
    refine ST.lift (fun _ _ k => T_iload d_Mo_feed_82 rfl k) ?_
    refine ST.lift (fun _ _ k => T_bipush (v := nI 24) d_Mo_feed_84 (by decide) k) ?_
    refine ST.lift (fun _ _ k => T_bipush (v := nI 8) d_Mo_feed_86 (by decide) k) ?_
    refine ST.lift (fun _ _ k => T_iload d_Mo_feed_88 rfl k) ?_
    refine ST.lift (fun _ _ k => T_iconst (v := nI 3) d_Mo_feed_90 (by decide) k) ?_
    refine S_iandN 2 d_Mo_feed_91 (by omega) (by decide) (by decide) ?_
    refine S_topi (y := nI 1) (by decide) ?_
    refine S_imulN d_Mo_feed_92 ?_
    refine S_topi (y := nI 8) (by decide) ?_
    refine S_isubN d_Mo_feed_93 (by omega) ?_
    refine S_topi (y := nI 16) (by decide) ?_
    refine ST.lift (fun _ _ k => T_ishr d_Mo_feed_94 k) (S_anyi fun z108 => ?_)
    refine ST.lift (fun _ _ k => T_sipush (v := nI 255) d_Mo_feed_95 (by decide) k) ?_
    refine S_iandM 8 d_Mo_feed_98 (by decide) (by decide) (fun j109 hj109 => ?_)
    simp only [Nat.reducePow] at hj109
    refine S_iastore d_Mo_feed_99 (by decide) a409 (vp_in_nI (by omega) (by omega)) ?_
    refine ST.lift (fun _ _ k => T_aload_n (v := .ref 373) d_Mo_feed_100 rfl (Or.inr ⟨_, rfl⟩) k) ?_
    refine ST.lift (fun _ _ k => T_dup d_Mo_feed_101 rfl k) ?_
    refine S_getfield d_Mo_feed_102 fg_Mo_344 (w373 _) rfl ?_
    refine S_topi (y := nI (((((((((((((((((t + 1) + 1) + 1) + 1) + 1) + 1) + 1) + 1) + 1) + 1) + 1) + 1) + 1) + 1) + 1) + 1) + 1)) (e_u104) ?_
    refine ST.lift (fun _ _ k => T_iconst (v := nI 1) d_Mo_feed_105 (by decide) k) ?_
    refine S_iaddN d_Mo_feed_106 ?_
    refine S_putfield (v' := va_up u104 73 (nI ((((((((((((((((((t + 1) + 1) + 1) + 1) + 1) + 1) + 1) + 1) + 1) + 1) + 1) + 1) + 1) + 1) + 1) + 1) + 1) + 1))) d_Mo_feed_107 (fp_Mo_344 _) (w373 _) (Nat.le_of_ble_eq_true rfl) ⟨rfl, rfl⟩ (u373_43 _ _) ?_
    have hv111 := hv105.up (j := 73) (c := 200) (k := ((((((((((((((((((t + 1) + 1) + 1) + 1) + 1) + 1) + 1) + 1) + 1) + 1) + 1) + 1) + 1) + 1) + 1) + 1) + 1) + 1)) (by decide) (by omega)
    have hm112 := hm106.go (mdf.up (v := u104) (j := 73) (x := (nI ((((((((((((((((((t + 1) + 1) + 1) + 1) + 1) + 1) + 1) + 1) + 1) + 1) + 1) + 1) + 1) + 1) + 1) + 1) + 1) + 1)))) (by intro i hi; simp only [List.mem_cons, List.not_mem_nil, or_false] at hi ⊢ <;> omega)
    have e_u110 : (va_up u104 73 (nI ((((((((((((((((((t + 1) + 1) + 1) + 1) + 1) + 1) + 1) + 1) + 1) + 1) + 1) + 1) + 1) + 1) + 1) + 1) + 1) + 1))) 73 = (nI ((((((((((((((((((t + 1) + 1) + 1) + 1) + 1) + 1) + 1) + 1) + 1) + 1) + 1) + 1) + 1) + 1) + 1) + 1) + 1) + 1)) := by simp [va_up]
    have e113 : (va_up u104 73 (nI ((((((((((((((((((t + 1) + 1) + 1) + 1) + 1) + 1) + 1) + 1) + 1) + 1) + 1) + 1) + 1) + 1) + 1) + 1) + 1) + 1))) 66 = nI 0 := by simp only [va_up]; exact e107
    generalize va_up u104 73 (nI ((((((((((((((((((t + 1) + 1) + 1) + 1) + 1) + 1) + 1) + 1) + 1) + 1) + 1) + 1) + 1) + 1) + 1) + 1) + 1) + 1)) = u110 at hv111 hm112 e_u110 e113 ⊢
    refine S_iincN (a := 17) (b := 1) (L' := [(6, .int (nI 18)), (7, .int x5), (0, .ref 373), (1, .int x1), (2, .int x2), (3, .int x3), (4, .int x4), (5, .int x5)]) d_Mo_feed_110 (by decide) rfl rfl rfl ?_
    refine ST.lift (fun _ _ k => T_goto (tgt := 23) d_Mo_feed_113 rfl k) ?_
    refine ST.lift (fun _ _ k => T_iload d_Mo_feed_23 rfl k) ?_
    refine ST.lift (fun _ _ k => T_bipush (v := nI 20) d_Mo_feed_25 (by decide) k) ?_
    refine S_icmp_geN d_Mo_feed_27 rfl (by omega) (by omega) (fun c => by first | exact absurd c (by omega) | exact c.elim | exact absurd c (by decide) | exact absurd (by assumption) c | exact absurd c (by assumption)) (fun _ => ?_)
    refine ST.lift (fun _ _ k => T_iload_n d_Mo_feed_30 rfl k) ?_
    refine ST.lift (fun _ _ k => T_istore (L' := [(7, .int x1), (6, .int (nI 18)), (0, .ref 373), (1, .int x1), (2, .int x2), (3, .int x3), (4, .int x4), (5, .int x5)]) d_Mo_feed_31 (by decide) rfl k) ?_
    refine ST.lift (fun _ _ k => T_iload d_Mo_feed_33 rfl k) ?_
    refine ST.lift (fun _ _ k => T_iconst (v := nI 4) d_Mo_feed_35 (by decide) k) ?_
    refine S_icmp_ltN d_Mo_feed_36 rfl (by omega) (by omega) (fun c => by first | exact absurd c (by omega) | exact c.elim | exact absurd c (by decide) | exact absurd (by assumption) c | exact absurd c (by assumption)) (fun _ => ?_)
    refine ST.lift (fun _ _ k => T_iload_n d_Mo_feed_39 rfl k) ?_
    refine ST.lift (fun _ _ k => T_istore (L' := [(7, .int x2), (6, .int (nI 18)), (0, .ref 373), (1, .int x1), (2, .int x2), (3, .int x3), (4, .int x4), (5, .int x5)]) d_Mo_feed_40 (by decide) rfl k) ?_
    refine ST.lift (fun _ _ k => T_iload d_Mo_feed_42 rfl k) ?_
    refine ST.lift (fun _ _ k => T_bipush (v := nI 8) d_Mo_feed_44 (by decide) k) ?_
    refine S_icmp_ltN d_Mo_feed_46 rfl (by omega) (by omega) (fun c => by first | exact absurd c (by omega) | exact c.elim | exact absurd c (by decide) | exact absurd (by assumption) c | exact absurd c (by assumption)) (fun _ => ?_)
    refine ST.lift (fun _ _ k => T_iload_n d_Mo_feed_49 rfl k) ?_
    refine ST.lift (fun _ _ k => T_istore (L' := [(7, .int x3), (6, .int (nI 18)), (0, .ref 373), (1, .int x1), (2, .int x2), (3, .int x3), (4, .int x4), (5, .int x5)]) d_Mo_feed_50 (by decide) rfl k) ?_
    refine ST.lift (fun _ _ k => T_iload d_Mo_feed_52 rfl k) ?_
    refine ST.lift (fun _ _ k => T_bipush (v := nI 12) d_Mo_feed_54 (by decide) k) ?_
    refine S_icmp_ltN d_Mo_feed_56 rfl (by omega) (by omega) (fun c => by first | exact absurd c (by omega) | exact c.elim | exact absurd c (by decide) | exact absurd (by assumption) c | exact absurd c (by assumption)) (fun _ => ?_)
    refine ST.lift (fun _ _ k => T_iload d_Mo_feed_59 rfl k) ?_
    refine ST.lift (fun _ _ k => T_istore (L' := [(7, .int x4), (6, .int (nI 18)), (0, .ref 373), (1, .int x1), (2, .int x2), (3, .int x3), (4, .int x4), (5, .int x5)]) d_Mo_feed_61 (by decide) rfl k) ?_
    refine ST.lift (fun _ _ k => T_iload d_Mo_feed_63 rfl k) ?_
    refine ST.lift (fun _ _ k => T_bipush (v := nI 16) d_Mo_feed_65 (by decide) k) ?_
    refine S_icmp_ltN d_Mo_feed_67 rfl (by omega) (by omega) (fun c => by first | exact absurd c (by omega) | exact c.elim | exact absurd c (by decide) | exact absurd (by assumption) c | exact absurd c (by assumption)) (fun _ => ?_)
    refine ST.lift (fun _ _ k => T_iload d_Mo_feed_70 rfl k) ?_
    refine ST.lift (fun _ _ k => T_istore (L' := [(7, .int x5), (6, .int (nI 18)), (0, .ref 373), (1, .int x1), (2, .int x2), (3, .int x3), (4, .int x4), (5, .int x5)]) d_Mo_feed_72 (by decide) rfl k) ?_
    refine ST.lift (fun _ _ k => T_aload_n (v := .ref 373) d_Mo_feed_74 rfl (Or.inr ⟨_, rfl⟩) k) ?_
    refine S_getfield d_Mo_feed_75 fg_Mo_341 (w373 _) rfl ?_
    refine ST.lift (fun _ _ k => T_aload_n (v := .ref 373) d_Mo_feed_78 rfl (Or.inr ⟨_, rfl⟩) k) ?_
    refine S_getfield d_Mo_feed_79 fg_Mo_344 (w373 _) rfl ?_
    refine S_topi (y := nI ((((((((((((((((((t + 1) + 1) + 1) + 1) + 1) + 1) + 1) + 1) + 1) + 1) + 1) + 1) + 1) + 1) + 1) + 1) + 1) + 1)) (e_u110) ?_
    refine ST.lift (fun _ _ k => T_iload d_Mo_feed_82 rfl k) ?_
    refine ST.lift (fun _ _ k => T_bipush (v := nI 24) d_Mo_feed_84 (by decide) k) ?_
    refine ST.lift (fun _ _ k => T_bipush (v := nI 8) d_Mo_feed_86 (by decide) k) ?_
    refine ST.lift (fun _ _ k => T_iload d_Mo_feed_88 rfl k) ?_
    refine ST.lift (fun _ _ k => T_iconst (v := nI 3) d_Mo_feed_90 (by decide) k) ?_
    refine S_iandN 2 d_Mo_feed_91 (by omega) (by decide) (by decide) ?_
    refine S_topi (y := nI 2) (by decide) ?_
    refine S_imulN d_Mo_feed_92 ?_
    refine S_topi (y := nI 16) (by decide) ?_
    refine S_isubN d_Mo_feed_93 (by omega) ?_
    refine S_topi (y := nI 8) (by decide) ?_
    refine ST.lift (fun _ _ k => T_ishr d_Mo_feed_94 k) (S_anyi fun z114 => ?_)
    refine ST.lift (fun _ _ k => T_sipush (v := nI 255) d_Mo_feed_95 (by decide) k) ?_
    refine S_iandM 8 d_Mo_feed_98 (by decide) (by decide) (fun j115 hj115 => ?_)
    simp only [Nat.reducePow] at hj115
    refine S_iastore d_Mo_feed_99 (by decide) a409 (vp_in_nI (by omega) (by omega)) ?_
    refine ST.lift (fun _ _ k => T_aload_n (v := .ref 373) d_Mo_feed_100 rfl (Or.inr ⟨_, rfl⟩) k) ?_
    refine ST.lift (fun _ _ k => T_dup d_Mo_feed_101 rfl k) ?_
    refine S_getfield d_Mo_feed_102 fg_Mo_344 (w373 _) rfl ?_
    refine S_topi (y := nI ((((((((((((((((((t + 1) + 1) + 1) + 1) + 1) + 1) + 1) + 1) + 1) + 1) + 1) + 1) + 1) + 1) + 1) + 1) + 1) + 1)) (e_u110) ?_
    refine ST.lift (fun _ _ k => T_iconst (v := nI 1) d_Mo_feed_105 (by decide) k) ?_
    refine S_iaddN d_Mo_feed_106 ?_
    refine S_putfield (v' := va_up u110 73 (nI (((((((((((((((((((t + 1) + 1) + 1) + 1) + 1) + 1) + 1) + 1) + 1) + 1) + 1) + 1) + 1) + 1) + 1) + 1) + 1) + 1) + 1))) d_Mo_feed_107 (fp_Mo_344 _) (w373 _) (Nat.le_of_ble_eq_true rfl) ⟨rfl, rfl⟩ (u373_43 _ _) ?_
    have hv117 := hv111.up (j := 73) (c := 200) (k := (((((((((((((((((((t + 1) + 1) + 1) + 1) + 1) + 1) + 1) + 1) + 1) + 1) + 1) + 1) + 1) + 1) + 1) + 1) + 1) + 1) + 1)) (by decide) (by omega)
    have hm118 := hm112.go (mdf.up (v := u110) (j := 73) (x := (nI (((((((((((((((((((t + 1) + 1) + 1) + 1) + 1) + 1) + 1) + 1) + 1) + 1) + 1) + 1) + 1) + 1) + 1) + 1) + 1) + 1) + 1)))) (by intro i hi; simp only [List.mem_cons, List.not_mem_nil, or_false] at hi ⊢ <;> omega)
    have e_u116 : (va_up u110 73 (nI (((((((((((((((((((t + 1) + 1) + 1) + 1) + 1) + 1) + 1) + 1) + 1) + 1) + 1) + 1) + 1) + 1) + 1) + 1) + 1) + 1) + 1))) 73 = (nI (((((((((((((((((((t + 1) + 1) + 1) + 1) + 1) + 1) + 1) + 1) + 1) + 1) + 1) + 1) + 1) + 1) + 1) + 1) + 1) + 1) + 1)) := by simp [va_up]
    have e119 : (va_up u110 73 (nI (((((((((((((((((((t + 1) + 1) + 1) + 1) + 1) + 1) + 1) + 1) + 1) + 1) + 1) + 1) + 1) + 1) + 1) + 1) + 1) + 1) + 1))) 66 = nI 0 := by simp only [va_up]; exact e113
    generalize va_up u110 73 (nI (((((((((((((((((((t + 1) + 1) + 1) + 1) + 1) + 1) + 1) + 1) + 1) + 1) + 1) + 1) + 1) + 1) + 1) + 1) + 1) + 1) + 1)) = u116 at hv117 hm118 e_u116 e119 ⊢
    refine S_iincN (a := 18) (b := 1) (L' := [(6, .int (nI 19)), (7, .int x5), (0, .ref 373), (1, .int x1), (2, .int x2), (3, .int x3), (4, .int x4), (5, .int x5)]) d_Mo_feed_110 (by decide) rfl rfl rfl ?_
    refine ST.lift (fun _ _ k => T_goto (tgt := 23) d_Mo_feed_113 rfl k) ?_
    refine ST.lift (fun _ _ k => T_iload d_Mo_feed_23 rfl k) ?_
    refine ST.lift (fun _ _ k => T_bipush (v := nI 20) d_Mo_feed_25 (by decide) k) ?_
    refine S_icmp_geN d_Mo_feed_27 rfl (by omega) (by omega) (fun c => by first | exact absurd c (by omega) | exact c.elim | exact absurd c (by decide) | exact absurd (by assumption) c | exact absurd c (by assumption)) (fun _ => ?_)
    refine ST.lift (fun _ _ k => T_iload_n d_Mo_feed_30 rfl k) ?_
    refine ST.lift (fun _ _ k => T_istore (L' := [(7, .int x1), (6, .int (nI 19)), (0, .ref 373), (1, .int x1), (2, .int x2), (3, .int x3), (4, .int x4), (5, .int x5)]) d_Mo_feed_31 (by decide) rfl k) ?_
    refine ST.lift (fun _ _ k => T_iload d_Mo_feed_33 rfl k) ?_
    refine ST.lift (fun _ _ k => T_iconst (v := nI 4) d_Mo_feed_35 (by decide) k) ?_
    refine S_icmp_ltN d_Mo_feed_36 rfl (by omega) (by omega) (fun c => by first | exact absurd c (by omega) | exact c.elim | exact absurd c (by decide) | exact absurd (by assumption) c | exact absurd c (by assumption)) (fun _ => ?_)
    refine ST.lift (fun _ _ k => T_iload_n d_Mo_feed_39 rfl k) ?_
    refine ST.lift (fun _ _ k => T_istore (L' := [(7, .int x2), (6, .int (nI 19)), (0, .ref 373), (1, .int x1), (2, .int x2), (3, .int x3), (4, .int x4), (5, .int x5)]) d_Mo_feed_40 (by decide) rfl k) ?_
    refine ST.lift (fun _ _ k => T_iload d_Mo_feed_42 rfl k) ?_
    refine ST.lift (fun _ _ k => T_bipush (v := nI 8) d_Mo_feed_44 (by decide) k) ?_
    refine S_icmp_ltN d_Mo_feed_46 rfl (by omega) (by omega) (fun c => by first | exact absurd c (by omega) | exact c.elim | exact absurd c (by decide) | exact absurd (by assumption) c | exact absurd c (by assumption)) (fun _ => ?_)
    refine ST.lift (fun _ _ k => T_iload_n d_Mo_feed_49 rfl k) ?_
    refine ST.lift (fun _ _ k => T_istore (L' := [(7, .int x3), (6, .int (nI 19)), (0, .ref 373), (1, .int x1), (2, .int x2), (3, .int x3), (4, .int x4), (5, .int x5)]) d_Mo_feed_50 (by decide) rfl k) ?_
    refine ST.lift (fun _ _ k => T_iload d_Mo_feed_52 rfl k) ?_
    refine ST.lift (fun _ _ k => T_bipush (v := nI 12) d_Mo_feed_54 (by decide) k) ?_
    refine S_icmp_ltN d_Mo_feed_56 rfl (by omega) (by omega) (fun c => by first | exact absurd c (by omega) | exact c.elim | exact absurd c (by decide) | exact absurd (by assumption) c | exact absurd c (by assumption)) (fun _ => ?_)
    refine ST.lift (fun _ _ k => T_iload d_Mo_feed_59 rfl k) ?_
    refine ST.lift (fun _ _ k => T_istore (L' := [(7, .int x4), (6, .int (nI 19)), (0, .ref 373), (1, .int x1), (2, .int x2), (3, .int x3), (4, .int x4), (5, .int x5)]) d_Mo_feed_61 (by decide) rfl k) ?_
    refine ST.lift (fun _ _ k => T_iload d_Mo_feed_63 rfl k) ?_
    refine ST.lift (fun _ _ k => T_bipush (v := nI 16) d_Mo_feed_65 (by decide) k) ?_
    refine S_icmp_ltN d_Mo_feed_67 rfl (by omega) (by omega) (fun c => by first | exact absurd c (by omega) | exact c.elim | exact absurd c (by decide) | exact absurd (by assumption) c | exact absurd c (by assumption)) (fun _ => ?_)
    refine ST.lift (fun _ _ k => T_iload d_Mo_feed_70 rfl k) ?_
    refine ST.lift (fun _ _ k => T_istore (L' := [(7, .int x5), (6, .int (nI 19)), (0, .ref 373), (1, .int x1), (2, .int x2), (3, .int x3), (4, .int x4), (5, .int x5)]) d_Mo_feed_72 (by decide) rfl k) ?_
    refine ST.lift (fun _ _ k => T_aload_n (v := .ref 373) d_Mo_feed_74 rfl (Or.inr ⟨_, rfl⟩) k) ?_
    refine S_getfield d_Mo_feed_75 fg_Mo_341 (w373 _) rfl ?_
    refine ST.lift (fun _ _ k => T_aload_n (v := .ref 373) d_Mo_feed_78 rfl (Or.inr ⟨_, rfl⟩) k) ?_
    refine S_getfield d_Mo_feed_79 fg_Mo_344 (w373 _) rfl ?_
    refine S_topi (y := nI (((((((((((((((((((t + 1) + 1) + 1) + 1) + 1) + 1) + 1) + 1) + 1) + 1) + 1) + 1) + 1) + 1) + 1) + 1) + 1) + 1) + 1)) (e_u116) ?_
    refine ST.lift (fun _ _ k => T_iload d_Mo_feed_82 rfl k) ?_
    refine ST.lift (fun _ _ k => T_bipush (v := nI 24) d_Mo_feed_84 (by decide) k) ?_
    refine ST.lift (fun _ _ k => T_bipush (v := nI 8) d_Mo_feed_86 (by decide) k) ?_
    refine ST.lift (fun _ _ k => T_iload d_Mo_feed_88 rfl k) ?_
    refine ST.lift (fun _ _ k => T_iconst (v := nI 3) d_Mo_feed_90 (by decide) k) ?_
    refine S_iandN 2 d_Mo_feed_91 (by omega) (by decide) (by decide) ?_
    refine S_topi (y := nI 3) (by decide) ?_
    refine S_imulN d_Mo_feed_92 ?_
    refine S_topi (y := nI 24) (by decide) ?_
    refine S_isubN d_Mo_feed_93 (by omega) ?_
    refine S_topi (y := nI 0) (by decide) ?_
    refine ST.lift (fun _ _ k => T_ishr d_Mo_feed_94 k) (S_anyi fun z120 => ?_)
    refine ST.lift (fun _ _ k => T_sipush (v := nI 255) d_Mo_feed_95 (by decide) k) ?_
    refine S_iandM 8 d_Mo_feed_98 (by decide) (by decide) (fun j121 hj121 => ?_)
    simp only [Nat.reducePow] at hj121
    refine S_iastore d_Mo_feed_99 (by decide) a409 (vp_in_nI (by omega) (by omega)) ?_
    refine ST.lift (fun _ _ k => T_aload_n (v := .ref 373) d_Mo_feed_100 rfl (Or.inr ⟨_, rfl⟩) k) ?_
    refine ST.lift (fun _ _ k => T_dup d_Mo_feed_101 rfl k) ?_
    refine S_getfield d_Mo_feed_102 fg_Mo_344 (w373 _) rfl ?_
    refine S_topi (y := nI (((((((((((((((((((t + 1) + 1) + 1) + 1) + 1) + 1) + 1) + 1) + 1) + 1) + 1) + 1) + 1) + 1) + 1) + 1) + 1) + 1) + 1)) (e_u116) ?_
    refine ST.lift (fun _ _ k => T_iconst (v := nI 1) d_Mo_feed_105 (by decide) k) ?_
    refine S_iaddN d_Mo_feed_106 ?_
    refine S_putfield (v' := va_up u116 73 (nI ((((((((((((((((((((t + 1) + 1) + 1) + 1) + 1) + 1) + 1) + 1) + 1) + 1) + 1) + 1) + 1) + 1) + 1) + 1) + 1) + 1) + 1) + 1))) d_Mo_feed_107 (fp_Mo_344 _) (w373 _) (Nat.le_of_ble_eq_true rfl) ⟨rfl, rfl⟩ (u373_43 _ _) ?_
    have hv123 := hv117.up (j := 73) (c := 200) (k := ((((((((((((((((((((t + 1) + 1) + 1) + 1) + 1) + 1) + 1) + 1) + 1) + 1) + 1) + 1) + 1) + 1) + 1) + 1) + 1) + 1) + 1) + 1)) (by decide) (by omega)
    have hm124 := hm118.go (mdf.up (v := u116) (j := 73) (x := (nI ((((((((((((((((((((t + 1) + 1) + 1) + 1) + 1) + 1) + 1) + 1) + 1) + 1) + 1) + 1) + 1) + 1) + 1) + 1) + 1) + 1) + 1) + 1)))) (by intro i hi; simp only [List.mem_cons, List.not_mem_nil, or_false] at hi ⊢ <;> omega)
    have e_u122 : (va_up u116 73 (nI ((((((((((((((((((((t + 1) + 1) + 1) + 1) + 1) + 1) + 1) + 1) + 1) + 1) + 1) + 1) + 1) + 1) + 1) + 1) + 1) + 1) + 1) + 1))) 73 = (nI ((((((((((((((((((((t + 1) + 1) + 1) + 1) + 1) + 1) + 1) + 1) + 1) + 1) + 1) + 1) + 1) + 1) + 1) + 1) + 1) + 1) + 1) + 1)) := by simp [va_up]
    have e125 : (va_up u116 73 (nI ((((((((((((((((((((t + 1) + 1) + 1) + 1) + 1) + 1) + 1) + 1) + 1) + 1) + 1) + 1) + 1) + 1) + 1) + 1) + 1) + 1) + 1) + 1))) 66 = nI 0 := by simp only [va_up]; exact e119
    generalize va_up u116 73 (nI ((((((((((((((((((((t + 1) + 1) + 1) + 1) + 1) + 1) + 1) + 1) + 1) + 1) + 1) + 1) + 1) + 1) + 1) + 1) + 1) + 1) + 1) + 1)) = u122 at hv123 hm124 e_u122 e125 ⊢
    refine S_iincN (a := 19) (b := 1) (L' := [(6, .int (nI 20)), (7, .int x5), (0, .ref 373), (1, .int x1), (2, .int x2), (3, .int x3), (4, .int x4), (5, .int x5)]) d_Mo_feed_110 (by decide) rfl rfl rfl ?_
    refine ST.lift (fun _ _ k => T_goto (tgt := 23) d_Mo_feed_113 rfl k) ?_
    refine ST.lift (fun _ _ k => T_iload d_Mo_feed_23 rfl k) ?_
    refine ST.lift (fun _ _ k => T_bipush (v := nI 20) d_Mo_feed_25 (by decide) k) ?_
    refine S_icmp_geN d_Mo_feed_27 rfl (by omega) (by omega) (fun _ => ?_) (fun c => by first | exact absurd c (by omega) | exact c.elim | exact absurd c (by decide) | exact absurd (by assumption) c | exact absurd c (by assumption))
    refine ST.lift (fun _ _ k => T_iconst (v := nI 1) d_Mo_feed_116 (by decide) k) ?_
    refine S_topi (y := nI 1) (congrArg nI (by omega)) ?_
    exact S_ret d_Mo_feed_117 rfl (nar_z (by omega)) (by decide) (by decide) (hQ _ hv123 hm124 (e_u122.trans (congrArg nI (by omega))) (e125.trans (congrArg nI (by omega))))
  · refine ST.lift (fun _ _ k => T_iconst (v := nI 0) d_Mo_feed_18 (by decide) k) ?_
    exfalso; omega
set_option maxRecDepth 100000 in
set_option maxHeartbeats 4000000 in
theorem c_Mo_feed_no (G : GX) (v : Nat → Int32) (x1 : Int32) (x2 : Int32) (x3 : Int32) (x4 : Int32) (x5 : Int32) (t : Nat) (e73 : v 73 = nI t) (ht : 200 < t + 20 ∧ t ≤ 200) (hv : okv v) : CS G mi_Mo_feed [.ref 373, .int x1, .int x2, .int x3, .int x4, .int x5] v (fun r v' => r = some (.int (nI 0)) ∧ okv v' ∧ mdf [66, 73] v v' ∧ v' 73 = nI t ∧ v' 66 = nI 0) := by
  refine CS.of (by decide) (Nat.le_of_ble_eq_true rfl) ?_
  generalize hQe : (fun (r : Option Value) (v' : Nat → Int32) => r = some (.int (nI 0)) ∧ okv v' ∧ mdf [66, 73] v v' ∧ v' 73 = nI t ∧ v' 66 = nI 0) = Q
  have hQ : ∀ u, okv u → mdf [66, 73] v u → u 73 = nI t → u 66 = nI 0 → Q (some (.int (nI 0))) u := by rw [← hQe]; exact fun u h1 h2 f0 f1 => ⟨rfl, h1, h2, f0, f1⟩
  clear hQe
  have hm : mdf [66, 73] v v := mdf.rf
  show ST G mi_Mo_feed 0 [(0, .ref 373), (1, .int x1), (2, .int x2), (3, .int x3), (4, .int x4), (5, .int x5)] [] v 0 0 Q
  refine ST.lift (fun _ _ k => T_aload_n (v := .ref 373) d_Mo_feed_0 rfl (Or.inr ⟨_, rfl⟩) k) ?_
  refine ST.lift (fun _ _ k => T_iconst (v := nI 0) d_Mo_feed_1 (by decide) k) ?_
  refine S_putfield (v' := va_up v 66 (nI 0)) d_Mo_feed_2 (fp_Mo_316 _) (w373 _) (Nat.le_of_ble_eq_true rfl) ⟨rfl, rfl⟩ (u373_0 _ _) ?_
  have hv2 := hv.off (j := 66) (x := (nI 0)) (by decide)
  have hm3 := hm.go (mdf.up (v := v) (j := 66) (x := (nI 0))) (by intro i hi; simp only [List.mem_cons, List.not_mem_nil, or_false] at hi ⊢ <;> omega)
  have e_u1 : (va_up v 66 (nI 0)) 66 = (nI 0) := by simp [va_up]
  have e4 : (va_up v 66 (nI 0)) 73 = nI t := by simp only [va_up]; exact e73
  generalize va_up v 66 (nI 0) = u1 at hv2 hm3 e_u1 e4 ⊢
  refine ST.lift (fun _ _ k => T_aload_n (v := .ref 373) d_Mo_feed_5 rfl (Or.inr ⟨_, rfl⟩) k) ?_
  refine S_getfield d_Mo_feed_6 fg_Mo_344 (w373 _) rfl ?_
  refine S_topi (y := nI t) (e4) ?_
  refine ST.lift (fun _ _ k => T_bipush (v := nI 20) d_Mo_feed_9 (by decide) k) ?_
  refine S_iaddN d_Mo_feed_11 ?_
  refine ST.lift (fun _ _ k => T_sipush (v := nI 200) d_Mo_feed_12 (by decide) k) ?_
  refine S_icmp_leN d_Mo_feed_15 rfl (by omega) (by omega) (fun c => by first | exact absurd c (by omega) | exact c.elim | exact absurd c (by decide) | exact absurd (by assumption) c | exact absurd c (by assumption)) (fun _ => ?_)
  refine ST.lift (fun _ _ k => T_iconst (v := nI 0) d_Mo_feed_18 (by decide) k) ?_
  refine S_topi (y := nI 0) (congrArg nI (by omega)) ?_
  exact S_ret d_Mo_feed_19 rfl (nar_z (by omega)) (by decide) (by decide) (hQ _ hv2 hm3 (e4.trans (congrArg nI (by omega))) (e_u1.trans (congrArg nI (by omega))))
set_option maxRecDepth 100000 in
set_option maxHeartbeats 4000000 in
theorem c_Mo_end_in (G : GX) (v : Nat → Int32) (n : Nat) (b_n : n ≤ 200) (t : Nat) (e73 : v 73 = nI t) (ht : n ≤ t ∧ t ≤ 200) (hv : okv v) : CS G mi_Mo_end [.ref 373, .int (nI n)] v (fun r v' => r = some (.int (nI 1)) ∧ okv v' ∧ mdf [66, 73] v v' ∧ v' 73 = nI n) := by
  refine CS.of (by decide) (Nat.le_of_ble_eq_true rfl) ?_
  generalize hQe : (fun (r : Option Value) (v' : Nat → Int32) => r = some (.int (nI 1)) ∧ okv v' ∧ mdf [66, 73] v v' ∧ v' 73 = nI n) = Q
  have hQ : ∀ u, okv u → mdf [66, 73] v u → u 73 = nI n → Q (some (.int (nI 1))) u := by rw [← hQe]; exact fun u h1 h2 f0 => ⟨rfl, h1, h2, f0⟩
  clear hQe
  have hm : mdf [66, 73] v v := mdf.rf
  show ST G mi_Mo_end 0 [(0, .ref 373), (1, .int (nI n))] [] v 0 0 Q
  refine ST.lift (fun _ _ k => T_aload_n (v := .ref 373) d_Mo_end_0 rfl (Or.inr ⟨_, rfl⟩) k) ?_
  refine ST.lift (fun _ _ k => T_iconst (v := nI 0) d_Mo_end_1 (by decide) k) ?_
  refine S_putfield (v' := va_up v 66 (nI 0)) d_Mo_end_2 (fp_Mo_316 _) (w373 _) (Nat.le_of_ble_eq_true rfl) ⟨rfl, rfl⟩ (u373_0 _ _) ?_
  have hv2 := hv.off (j := 66) (x := (nI 0)) (by decide)
  have hm3 := hm.go (mdf.up (v := v) (j := 66) (x := (nI 0))) (by intro i hi; simp only [List.mem_cons, List.not_mem_nil, or_false] at hi ⊢ <;> omega)
  have e_u1 : (va_up v 66 (nI 0)) 66 = (nI 0) := by simp [va_up]
  have e4 : (va_up v 66 (nI 0)) 73 = nI t := by simp only [va_up]; exact e73
  generalize va_up v 66 (nI 0) = u1 at hv2 hm3 e_u1 e4 ⊢
  refine ST.lift (fun _ _ k => T_iload_n d_Mo_end_5 rfl k) ?_
  refine S_if_ltN d_Mo_end_6 rfl (by omega) (fun c => by first | exact absurd c (by omega) | exact c.elim | exact absurd c (by decide) | exact absurd (by assumption) c | exact absurd c (by assumption)) (fun _ => ?_)
  refine ST.lift (fun _ _ k => T_iload_n d_Mo_end_9 rfl k) ?_
  refine ST.lift (fun _ _ k => T_aload_n (v := .ref 373) d_Mo_end_10 rfl (Or.inr ⟨_, rfl⟩) k) ?_
  refine S_getfield d_Mo_end_11 fg_Mo_344 (w373 _) rfl ?_
  refine S_topi (y := nI t) (e4) ?_
  refine S_icmp_leN d_Mo_end_14 rfl (by omega) (by omega) (fun c5 => ?_) (fun c5 => ?_)
  · refine ST.lift (fun _ _ k => T_aload_n (v := .ref 373) d_Mo_end_19 rfl (Or.inr ⟨_, rfl⟩) k) ?_
    refine ST.lift (fun _ _ k => T_iload_n d_Mo_end_20 rfl k) ?_
    refine S_putfield (v' := va_up u1 73 (nI n)) d_Mo_end_21 (fp_Mo_344 _) (w373 _) (Nat.le_of_ble_eq_true rfl) ⟨rfl, rfl⟩ (u373_43 _ _) ?_
    have hv7 := hv2.up (j := 73) (c := 200) (k := n) (by decide) (by omega)
    have hm8 := hm3.go (mdf.up (v := u1) (j := 73) (x := (nI n))) (by intro i hi; simp only [List.mem_cons, List.not_mem_nil, or_false] at hi ⊢ <;> omega)
    have e_u6 : (va_up u1 73 (nI n)) 73 = (nI n) := by simp [va_up]
    have e9 : (va_up u1 73 (nI n)) 66 = nI 0 := by simp only [va_up]; exact e_u1
    generalize va_up u1 73 (nI n) = u6 at hv7 hm8 e_u6 e9 ⊢
    refine ST.lift (fun _ _ k => T_iconst (v := nI 1) d_Mo_end_24 (by decide) k) ?_
    refine S_topi (y := nI 1) (congrArg nI (by omega)) ?_
    exact S_ret d_Mo_end_25 rfl (nar_z (by omega)) (by decide) (by decide) (hQ _ hv7 hm8 (e_u6.trans (congrArg nI (by omega))))
  · refine ST.lift (fun _ _ k => T_iconst (v := nI 0) d_Mo_end_17 (by decide) k) ?_
    exfalso; omega
set_option maxRecDepth 100000 in
set_option maxHeartbeats 4000000 in
theorem c_Mo_end_big (G : GX) (v : Nat → Int32) (n : Nat) (b_n : n < 2147483648) (t : Nat) (e73 : v 73 = nI t) (ht : t < n ∧ t ≤ 200) (hv : okv v) : CS G mi_Mo_end [.ref 373, .int (nI n)] v (fun r v' => r = some (.int (nI 0)) ∧ okv v' ∧ mdf [66, 73] v v' ∧ v' 73 = nI t) := by
  refine CS.of (by decide) (Nat.le_of_ble_eq_true rfl) ?_
  generalize hQe : (fun (r : Option Value) (v' : Nat → Int32) => r = some (.int (nI 0)) ∧ okv v' ∧ mdf [66, 73] v v' ∧ v' 73 = nI t) = Q
  have hQ : ∀ u, okv u → mdf [66, 73] v u → u 73 = nI t → Q (some (.int (nI 0))) u := by rw [← hQe]; exact fun u h1 h2 f0 => ⟨rfl, h1, h2, f0⟩
  clear hQe
  have hm : mdf [66, 73] v v := mdf.rf
  show ST G mi_Mo_end 0 [(0, .ref 373), (1, .int (nI n))] [] v 0 0 Q
  refine ST.lift (fun _ _ k => T_aload_n (v := .ref 373) d_Mo_end_0 rfl (Or.inr ⟨_, rfl⟩) k) ?_
  refine ST.lift (fun _ _ k => T_iconst (v := nI 0) d_Mo_end_1 (by decide) k) ?_
  refine S_putfield (v' := va_up v 66 (nI 0)) d_Mo_end_2 (fp_Mo_316 _) (w373 _) (Nat.le_of_ble_eq_true rfl) ⟨rfl, rfl⟩ (u373_0 _ _) ?_
  have hv2 := hv.off (j := 66) (x := (nI 0)) (by decide)
  have hm3 := hm.go (mdf.up (v := v) (j := 66) (x := (nI 0))) (by intro i hi; simp only [List.mem_cons, List.not_mem_nil, or_false] at hi ⊢ <;> omega)
  have e_u1 : (va_up v 66 (nI 0)) 66 = (nI 0) := by simp [va_up]
  have e4 : (va_up v 66 (nI 0)) 73 = nI t := by simp only [va_up]; exact e73
  generalize va_up v 66 (nI 0) = u1 at hv2 hm3 e_u1 e4 ⊢
  refine ST.lift (fun _ _ k => T_iload_n d_Mo_end_5 rfl k) ?_
  refine S_if_ltN d_Mo_end_6 rfl (by omega) (fun c => by first | exact absurd c (by omega) | exact c.elim | exact absurd c (by decide) | exact absurd (by assumption) c | exact absurd c (by assumption)) (fun _ => ?_)
  refine ST.lift (fun _ _ k => T_iload_n d_Mo_end_9 rfl k) ?_
  refine ST.lift (fun _ _ k => T_aload_n (v := .ref 373) d_Mo_end_10 rfl (Or.inr ⟨_, rfl⟩) k) ?_
  refine S_getfield d_Mo_end_11 fg_Mo_344 (w373 _) rfl ?_
  refine S_topi (y := nI t) (e4) ?_
  refine S_icmp_leN d_Mo_end_14 rfl (by omega) (by omega) (fun c5 => ?_) (fun c5 => ?_)
  · refine ST.lift (fun _ _ k => T_aload_n (v := .ref 373) d_Mo_end_19 rfl (Or.inr ⟨_, rfl⟩) k) ?_
    refine ST.lift (fun _ _ k => T_iload_n d_Mo_end_20 rfl k) ?_
    refine S_putfield (v' := va_up u1 73 (nI n)) d_Mo_end_21 (fp_Mo_344 _) (w373 _) (Nat.le_of_ble_eq_true rfl) ⟨rfl, rfl⟩ (u373_43 _ _) ?_
    have hv7 := hv2.up (j := 73) (c := 200) (k := n) (by decide) (by omega)
    have hm8 := hm3.go (mdf.up (v := u1) (j := 73) (x := (nI n))) (by intro i hi; simp only [List.mem_cons, List.not_mem_nil, or_false] at hi ⊢ <;> omega)
    have e_u6 : (va_up u1 73 (nI n)) 73 = (nI n) := by simp [va_up]
    have e9 : (va_up u1 73 (nI n)) 66 = nI 0 := by simp only [va_up]; exact e_u1
    generalize va_up u1 73 (nI n) = u6 at hv7 hm8 e_u6 e9 ⊢
    refine ST.lift (fun _ _ k => T_iconst (v := nI 1) d_Mo_end_24 (by decide) k) ?_
    exfalso; omega
  · refine ST.lift (fun _ _ k => T_iconst (v := nI 0) d_Mo_end_17 (by decide) k) ?_
    refine S_topi (y := nI 0) (congrArg nI (by omega)) ?_
    exact S_ret d_Mo_end_18 rfl (nar_z (by omega)) (by decide) (by decide) (hQ _ hv2 hm3 (e4.trans (congrArg nI (by omega))))
set_option maxRecDepth 100000 in
set_option maxHeartbeats 4000000 in
theorem c_Mo_end_neg (G : GX) (v : Nat → Int32) (x : Int32) (t : Nat) (e73 : v 73 = nI t) (hx : x < 0) (hv : okv v) : CS G mi_Mo_end [.ref 373, .int x] v (fun r v' => r = some (.int (nI 0)) ∧ okv v' ∧ mdf [66, 73] v v' ∧ v' 73 = nI t) := by
  refine CS.of (by decide) (Nat.le_of_ble_eq_true rfl) ?_
  generalize hQe : (fun (r : Option Value) (v' : Nat → Int32) => r = some (.int (nI 0)) ∧ okv v' ∧ mdf [66, 73] v v' ∧ v' 73 = nI t) = Q
  have hQ : ∀ u, okv u → mdf [66, 73] v u → u 73 = nI t → Q (some (.int (nI 0))) u := by rw [← hQe]; exact fun u h1 h2 f0 => ⟨rfl, h1, h2, f0⟩
  clear hQe
  have hm : mdf [66, 73] v v := mdf.rf
  show ST G mi_Mo_end 0 [(0, .ref 373), (1, .int x)] [] v 0 0 Q
  refine ST.lift (fun _ _ k => T_aload_n (v := .ref 373) d_Mo_end_0 rfl (Or.inr ⟨_, rfl⟩) k) ?_
  refine ST.lift (fun _ _ k => T_iconst (v := nI 0) d_Mo_end_1 (by decide) k) ?_
  refine S_putfield (v' := va_up v 66 (nI 0)) d_Mo_end_2 (fp_Mo_316 _) (w373 _) (Nat.le_of_ble_eq_true rfl) ⟨rfl, rfl⟩ (u373_0 _ _) ?_
  have hv2 := hv.off (j := 66) (x := (nI 0)) (by decide)
  have hm3 := hm.go (mdf.up (v := v) (j := 66) (x := (nI 0))) (by intro i hi; simp only [List.mem_cons, List.not_mem_nil, or_false] at hi ⊢ <;> omega)
  have e_u1 : (va_up v 66 (nI 0)) 66 = (nI 0) := by simp [va_up]
  have e4 : (va_up v 66 (nI 0)) 73 = nI t := by simp only [va_up]; exact e73
  generalize va_up v 66 (nI 0) = u1 at hv2 hm3 e_u1 e4 ⊢
  refine ST.lift (fun _ _ k => T_iload_n d_Mo_end_5 rfl k) ?_
  refine S_if_lt d_Mo_end_6 rfl (fun _ => ?_) (fun c => by first | exact absurd c (by omega) | exact c.elim | exact absurd c (by decide) | exact absurd (by assumption) c | exact absurd c (by assumption))
  refine ST.lift (fun _ _ k => T_iconst (v := nI 0) d_Mo_end_17 (by decide) k) ?_
  refine S_topi (y := nI 0) (congrArg nI (by omega)) ?_
  exact S_ret d_Mo_end_18 rfl (nar_z (by omega)) (by decide) (by decide) (hQ _ hv2 hm3 (e4.trans (congrArg nI (by omega))))
set_option maxRecDepth 100000 in
set_option maxHeartbeats 4000000 in
theorem c_Mo_hash (G : GX) (v : Nat → Int32) (e67 : v 67 = nI 0) (hv : okv v) : CS G mi_Mo_hash [.ref 373] v (fun r v' => r = some (.int (nI 64)) ∧ okv v' ∧ mdf [66, 67, 73, 74] v v' ∧ v' 67 = nI 0 ∧ v' 73 = nI 0) := by
  refine CS.of (by decide) (Nat.le_of_ble_eq_true rfl) ?_
  generalize hQe : (fun (r : Option Value) (v' : Nat → Int32) => r = some (.int (nI 64)) ∧ okv v' ∧ mdf [66, 67, 73, 74] v v' ∧ v' 67 = nI 0 ∧ v' 73 = nI 0) = Q
  have hQ : ∀ u, okv u → mdf [66, 67, 73, 74] v u → u 67 = nI 0 → u 73 = nI 0 → Q (some (.int (nI 64))) u := by rw [← hQe]; exact fun u h1 h2 f0 f1 => ⟨rfl, h1, h2, f0, f1⟩
  clear hQe
  have hm : mdf [66, 67, 73, 74] v v := mdf.rf
  show ST G mi_Mo_hash 0 [(0, .ref 373)] [] v 0 0 Q
  refine ST.lift (fun _ _ k => T_aload_n (v := .ref 373) d_Mo_hash_0 rfl (Or.inr ⟨_, rfl⟩) k) ?_
  refine ST.lift (fun _ _ k => T_iconst (v := nI 0) d_Mo_hash_1 (by decide) k) ?_
  refine S_putfield (v' := va_up v 66 (nI 0)) d_Mo_hash_2 (fp_Mo_316 _) (w373 _) (Nat.le_of_ble_eq_true rfl) ⟨rfl, rfl⟩ (u373_0 _ _) ?_
  have hv2 := hv.off (j := 66) (x := (nI 0)) (by decide)
  have hm3 := hm.go (mdf.up (v := v) (j := 66) (x := (nI 0))) (by intro i hi; simp only [List.mem_cons, List.not_mem_nil, or_false] at hi ⊢ <;> omega)
  have e_u1 : (va_up v 66 (nI 0)) 66 = (nI 0) := by simp [va_up]
  have e4 : (va_up v 66 (nI 0)) 67 = nI 0 := by simp only [va_up]; exact e67
  generalize va_up v 66 (nI 0) = u1 at hv2 hm3 e_u1 e4 ⊢
  refine ST.lift (fun _ _ k => T_aload_n (v := .ref 373) d_Mo_hash_5 rfl (Or.inr ⟨_, rfl⟩) k) ?_
  refine ST.lift (fun _ _ k => T_aload_n (v := .ref 373) d_Mo_hash_6 rfl (Or.inr ⟨_, rfl⟩) k) ?_
  refine S_getfield d_Mo_hash_7 fg_Mo_341 (w373 _) rfl ?_
  refine ST.lift (fun _ _ k => T_iconst (v := nI 0) d_Mo_hash_10 (by decide) k) ?_
  refine ST.lift (fun _ _ k => T_aload_n (v := .ref 373) d_Mo_hash_11 rfl (Or.inr ⟨_, rfl⟩) k) ?_
  obtain ⟨k5, hk5, ek5⟩ := hv2.get (j := 73) (c := 200) (by decide)
  refine S_getfield d_Mo_hash_12 fg_Mo_344 (w373 _) rfl ?_
  refine S_topi (y := nI k5) (ek5) ?_
  refine S_virtual (as := [.ref 409, .int (nI 0), .int (nI k5)]) (rest := []) (b := 373) d_Mo_hash_15 rfl (jw_Mo_bytes.jo (by decide)) lm_Mo_76 ji_Mo_bytes js_Mo_bytes (w373 _) rfl rfl rfl (Nat.le_of_ble_eq_true rfl) (by decide) (by decide) (c_Mo_bytes G u1 409 200 (by decide) a409 (by omega) 0 (by omega) k5 (by omega) 0 e4 (by omega) hv2) (fun r u6 hq => ?_)
  obtain ⟨hr, hv7, hm8, s9, hb_s9, es_u6⟩ := hq
  rw [hr]
  clear hr r
  have hm10 := hm3.go hm8 (by intro i hi; simp only [List.mem_cons, List.not_mem_nil, or_false] at hi ⊢ <;> omega)
  have e11 : u6 66 = nI 0 := (hm8 66 (by decide)).trans e_u1
  have e12 : u6 73 = nI k5 := (hm8 73 (by decide)).trans ek5
  show ST G mi_Mo_hash 18 [(0, .ref 373)] [] u6 0 0 _
  refine ST.lift (fun _ _ k => T_aload_n (v := .ref 373) d_Mo_hash_18 rfl (Or.inr ⟨_, rfl⟩) k) ?_
  refine ST.lift (fun _ _ k => T_iconst (v := nI 0) d_Mo_hash_19 (by decide) k) ?_
  refine S_putfield (v' := va_up u6 73 (nI 0)) d_Mo_hash_20 (fp_Mo_344 _) (w373 _) (Nat.le_of_ble_eq_true rfl) ⟨rfl, rfl⟩ (u373_43 _ _) ?_
  have hv14 := hv7.up (j := 73) (c := 200) (k := 0) (by decide) (by omega)
  have hm15 := hm10.go (mdf.up (v := u6) (j := 73) (x := (nI 0))) (by intro i hi; simp only [List.mem_cons, List.not_mem_nil, or_false] at hi ⊢ <;> omega)
  have e_u13 : (va_up u6 73 (nI 0)) 73 = (nI 0) := by simp [va_up]
  have e16 : (va_up u6 73 (nI 0)) 66 = nI 0 := by simp only [va_up]; exact e11
  have e17 : (va_up u6 73 (nI 0)) 67 = nI s9 := by simp only [va_up]; exact es_u6
  generalize va_up u6 73 (nI 0) = u13 at hv14 hm15 e_u13 e16 e17 ⊢
  refine ST.lift (fun _ _ k => T_aload_n (v := .ref 373) d_Mo_hash_23 rfl (Or.inr ⟨_, rfl⟩) k) ?_
  refine S_virtual (as := []) (rest := []) (b := 373) d_Mo_hash_24 rfl (jw_Mo_hash0.jo (by decide)) lm_Mo_80 ji_Mo_hash0 js_Mo_hash0 (w373 _) rfl rfl rfl (Nat.le_of_ble_eq_true rfl) (by decide) (by decide) (c_Mo_hash0 G u13 s9 e17 (by omega) hv14) (fun r u18 hq => ?_)
  obtain ⟨hr, hv19, hm20, es_u18⟩ := hq
  rw [hr]
  clear hr r
  have hm22 := hm15.go hm20 (by intro i hi; simp only [List.mem_cons, List.not_mem_nil, or_false] at hi ⊢ <;> omega)
  have e23 : u18 66 = nI 0 := (hm20 66 (by decide)).trans e16
  have e24 : u18 73 = nI 0 := (hm20 73 (by decide)).trans e_u13
  show ST G mi_Mo_hash 27 [(0, .ref 373)] [] u18 0 0 _
  refine ST.lift (fun _ _ k => T_iconst (v := nI 0) d_Mo_hash_27 (by decide) k) ?_
  refine ST.lift (fun _ _ k => T_istore_n (L' := [(1, .int (nI 0)), (0, .ref 373)]) d_Mo_hash_28 (by decide) rfl k) ?_
  have lp28 : ∀ (n26 k25 : Nat), 64 - k25 = n26 → 0 ≤ k25 ∧ k25 ≤ 0 + 64 → ST G mi_Mo_hash 29 [(1, .int (nI k25)), (0, .ref 373)] [] u18 0 0 Q := by
    intro n26
    induction n26 using Nat.strongRecOn with
    | _ n26 ih27 =>
      intro k25 h29 h30
      refine ST.lift (fun _ _ k => T_iload_n d_Mo_hash_29 rfl k) ?_
      refine ST.lift (fun _ _ k => T_bipush (v := nI 64) d_Mo_hash_30 (by decide) k) ?_
      refine S_icmp_geN d_Mo_hash_32 rfl (by omega) (by omega) (fun c31 => ?_) (fun c31 => ?_)
      · refine ST.lift (fun _ _ k => T_aload_n (v := .ref 373) d_Mo_hash_53 rfl (Or.inr ⟨_, rfl⟩) k) ?_
        refine ST.lift (fun _ _ k => T_bipush (v := nI 64) d_Mo_hash_54 (by decide) k) ?_
        refine S_putfield (v' := va_up u18 74 (nI 64)) d_Mo_hash_56 (fp_Mo_350 _) (w373 _) (Nat.le_of_ble_eq_true rfl) ⟨rfl, rfl⟩ (u373_45 _ _) ?_
        have hv34 := hv19.up (j := 74) (c := 64) (k := 64) (by decide) (by omega)
        have hm35 := hm22.go (mdf.up (v := u18) (j := 74) (x := (nI 64))) (by intro i hi; simp only [List.mem_cons, List.not_mem_nil, or_false] at hi ⊢ <;> omega)
        have e_u33 : (va_up u18 74 (nI 64)) 74 = (nI 64) := by simp [va_up]
        have e36 : (va_up u18 74 (nI 64)) 66 = nI 0 := by simp only [va_up]; exact e23
        have e37 : (va_up u18 74 (nI 64)) 73 = nI 0 := by simp only [va_up]; exact e24
        have e38 : (va_up u18 74 (nI 64)) 67 = nI 0 := by simp only [va_up]; exact es_u18
        generalize va_up u18 74 (nI 64) = u33 at hv34 hm35 e_u33 e36 e37 e38 ⊢
        refine ST.lift (fun _ _ k => T_bipush (v := nI 64) d_Mo_hash_59 (by decide) k) ?_
        refine S_topi (y := nI 64) (congrArg nI (by omega)) ?_
        exact S_ret d_Mo_hash_61 rfl rfl (by decide) (by decide) (hQ _ hv34 hm35 (e38.trans (congrArg nI (by omega))) (e37.trans (congrArg nI (by omega))))
      · refine ST.lift (fun _ _ k => T_aload_n (v := .ref 373) d_Mo_hash_35 rfl (Or.inr ⟨_, rfl⟩) k) ?_
        refine S_getfield d_Mo_hash_36 fg_Mo_347 (w373 _) rfl ?_
        refine ST.lift (fun _ _ k => T_iload_n d_Mo_hash_39 rfl k) ?_
        refine ST.lift (fun _ _ k => T_aload_n (v := .ref 373) d_Mo_hash_40 rfl (Or.inr ⟨_, rfl⟩) k) ?_
        refine S_getfield d_Mo_hash_41 fg_Mo_55 (w373 _) rfl ?_
        refine ST.lift (fun _ _ k => T_iload_n d_Mo_hash_44 rfl k) ?_
        refine S_iaload d_Mo_hash_45 a383 (vp_in_nI (by omega) (by omega)) (fun z39 => ?_)
        refine S_iastore d_Mo_hash_46 (by decide) a410 (vp_in_nI (by omega) (by omega)) ?_
        refine S_iincN (a := k25) (b := 1) (L' := [(1, .int (nI (k25 + 1))), (0, .ref 373)]) d_Mo_hash_47 (by decide) rfl rfl rfl ?_
        refine ST.lift (fun _ _ k => T_goto (tgt := 29) d_Mo_hash_50 rfl k) ?_
        exact ih27 (64 - (k25 + 1)) (by omega) (k25 + 1)  rfl (by omega)
  exact lp28 _ 0  rfl (by omega)
set_option maxRecDepth 100000 in
set_option maxHeartbeats 4000000 in
theorem c_Mo_group (G : GX) (v : Nat → Int32) (e67 : v 67 = nI 0) (hv : okv v) : CS G mi_Mo_group [.ref 373] v (fun r v' => r = some (.int (nI 32)) ∧ okv v' ∧ mdf [66, 67, 73, 74, 70, 68, 69, 72, 75] v v' ∧ v' 67 = nI 0 ∧ v' 73 = nI 0) := by
  refine CS.of (by decide) (Nat.le_of_ble_eq_true rfl) ?_
  generalize hQe : (fun (r : Option Value) (v' : Nat → Int32) => r = some (.int (nI 32)) ∧ okv v' ∧ mdf [66, 67, 73, 74, 70, 68, 69, 72, 75] v v' ∧ v' 67 = nI 0 ∧ v' 73 = nI 0) = Q
  have hQ : ∀ u, okv u → mdf [66, 67, 73, 74, 70, 68, 69, 72, 75] v u → u 67 = nI 0 → u 73 = nI 0 → Q (some (.int (nI 32))) u := by rw [← hQe]; exact fun u h1 h2 f0 f1 => ⟨rfl, h1, h2, f0, f1⟩
  clear hQe
  have hm : mdf [66, 67, 73, 74, 70, 68, 69, 72, 75] v v := mdf.rf
  show ST G mi_Mo_group 0 [(0, .ref 373)] [] v 0 0 Q
  refine ST.lift (fun _ _ k => T_aload_n (v := .ref 373) d_Mo_group_0 rfl (Or.inr ⟨_, rfl⟩) k) ?_
  refine ST.lift (fun _ _ k => T_iconst (v := nI 0) d_Mo_group_1 (by decide) k) ?_
  refine S_putfield (v' := va_up v 66 (nI 0)) d_Mo_group_2 (fp_Mo_316 _) (w373 _) (Nat.le_of_ble_eq_true rfl) ⟨rfl, rfl⟩ (u373_0 _ _) ?_
  have hv2 := hv.off (j := 66) (x := (nI 0)) (by decide)
  have hm3 := hm.go (mdf.up (v := v) (j := 66) (x := (nI 0))) (by intro i hi; simp only [List.mem_cons, List.not_mem_nil, or_false] at hi ⊢ <;> omega)
  have e_u1 : (va_up v 66 (nI 0)) 66 = (nI 0) := by simp [va_up]
  have e4 : (va_up v 66 (nI 0)) 67 = nI 0 := by simp only [va_up]; exact e67
  generalize va_up v 66 (nI 0) = u1 at hv2 hm3 e_u1 e4 ⊢
  refine ST.lift (fun _ _ k => T_aload_n (v := .ref 373) d_Mo_group_5 rfl (Or.inr ⟨_, rfl⟩) k) ?_
  obtain ⟨k5, hk5, ek5⟩ := hv2.get (j := 73) (c := 200) (by decide)
  refine S_getfield d_Mo_group_6 fg_Mo_344 (w373 _) rfl ?_
  refine S_topi (y := nI k5) (ek5) ?_
  refine ST.lift (fun _ _ k => T_istore_n (L' := [(1, .int (nI k5)), (0, .ref 373)]) d_Mo_group_9 (by decide) rfl k) ?_
  refine ST.lift (fun _ _ k => T_aload_n (v := .ref 373) d_Mo_group_10 rfl (Or.inr ⟨_, rfl⟩) k) ?_
  refine ST.lift (fun _ _ k => T_iconst (v := nI 0) d_Mo_group_11 (by decide) k) ?_
  refine S_putfield (v' := va_up u1 73 (nI 0)) d_Mo_group_12 (fp_Mo_344 _) (w373 _) (Nat.le_of_ble_eq_true rfl) ⟨rfl, rfl⟩ (u373_43 _ _) ?_
  have hv7 := hv2.up (j := 73) (c := 200) (k := 0) (by decide) (by omega)
  have hm8 := hm3.go (mdf.up (v := u1) (j := 73) (x := (nI 0))) (by intro i hi; simp only [List.mem_cons, List.not_mem_nil, or_false] at hi ⊢ <;> omega)
  have e_u6 : (va_up u1 73 (nI 0)) 73 = (nI 0) := by simp [va_up]
  have e9 : (va_up u1 73 (nI 0)) 67 = nI 0 := by simp only [va_up]; exact e4
  have e10 : (va_up u1 73 (nI 0)) 66 = nI 0 := by simp only [va_up]; exact e_u1
  generalize va_up u1 73 (nI 0) = u6 at hv7 hm8 e_u6 e9 e10 ⊢
  refine ST.lift (fun _ _ k => T_aload_n (v := .ref 373) d_Mo_group_15 rfl (Or.inr ⟨_, rfl⟩) k) ?_
  refine ST.lift (fun _ _ k => T_bipush (v := nI 12) d_Mo_group_16 (by decide) k) ?_
  refine ST.lift (fun _ _ k => T_aload_n (v := .ref 373) d_Mo_group_18 rfl (Or.inr ⟨_, rfl⟩) k) ?_
  refine S_getfield d_Mo_group_19 fg_Mo_341 (w373 _) rfl ?_
  refine ST.lift (fun _ _ k => T_iload_n d_Mo_group_22 rfl k) ?_
  refine S_virtual (as := [.int (nI 12), .ref 409, .int (nI k5)]) (rest := []) (b := 373) d_Mo_group_23 rfl (jw_Mo_groupPoint.jo (by decide)) lm_Mo_495 ji_Mo_groupPoint js_Mo_groupPoint (w373 _) rfl rfl rfl (Nat.le_of_ble_eq_true rfl) (by decide) (by decide) (c_Mo_groupPoint G u6 12 (by omega) 409 200 (by decide) a409 (by omega) k5 (by omega) 0 e9 (by omega) hv7) (fun r u11 hq => ?_)
  obtain ⟨hr, hv12, hm13, es_u11⟩ := hq
  rw [hr]
  clear hr r
  have hm15 := hm8.go hm13 (by intro i hi; simp only [List.mem_cons, List.not_mem_nil, or_false] at hi ⊢ <;> omega)
  have e16 : u11 66 = nI 0 := (hm13 66 (by decide)).trans e10
  have e17 : u11 73 = nI 0 := (hm13 73 (by decide)).trans e_u6
  show ST G mi_Mo_group 26 [(1, .int (nI k5)), (0, .ref 373)] [] u11 0 0 _
  refine ST.lift (fun _ _ k => T_aload_n (v := .ref 373) d_Mo_group_26 rfl (Or.inr ⟨_, rfl⟩) k) ?_
  refine ST.lift (fun _ _ k => T_bipush (v := nI 12) d_Mo_group_27 (by decide) k) ?_
  refine S_virtual (as := [.int (nI 12)]) (rest := []) (b := 373) d_Mo_group_29 rfl (jw_Mo_coded.jo (by decide)) lm_Mo_498 ji_Mo_coded js_Mo_coded (w373 _) rfl rfl rfl (Nat.le_of_ble_eq_true rfl) (by decide) (by decide) (c_Mo_coded_x G u11 12 (by omega) hv12) (fun r u18 hq => ?_)
  obtain ⟨hr, hv19, hm20⟩ := hq
  rw [hr]
  clear hr r
  have hm21 := hm15.go hm20 (by intro i hi; simp only [List.mem_cons, List.not_mem_nil, or_false] at hi ⊢ <;> omega)
  have e22 : u18 66 = nI 0 := (hm20 66 (by decide)).trans e16
  have e23 : u18 73 = nI 0 := (hm20 73 (by decide)).trans e17
  have e24 : u18 67 = nI 0 := (hm20 67 (by decide)).trans es_u11
  show ST G mi_Mo_group 32 [(1, .int (nI k5)), (0, .ref 373)] [.int (nI 32)] u18 0 0 _
  refine S_topi (y := nI 32) (congrArg nI (by omega)) ?_
  exact S_ret d_Mo_group_32 rfl rfl (by decide) (by decide) (hQ _ hv19 hm21 (e24.trans (congrArg nI (by omega))) (e23.trans (congrArg nI (by omega))))
set_option maxRecDepth 100000 in
set_option maxHeartbeats 4000000 in
theorem c_Mo_times (G : GX) (v : Nat → Int32) (hv : okv v) : CS G mi_Mo_times [.ref 373] v (fun r v' => ∃ z : Int32, r = some (.int z) ∧ okv v' ∧ mdf [66, 73, 74] v v' ∧ v' 73 = nI 0) := by
  refine CS.of (by decide) (Nat.le_of_ble_eq_true rfl) ?_
  generalize hQe : (fun (r : Option Value) (v' : Nat → Int32) => ∃ z : Int32, r = some (.int z) ∧ okv v' ∧ mdf [66, 73, 74] v v' ∧ v' 73 = nI 0) = Q
  have hQ : ∀ (z : Int32) (u : Nat → Int32), okv u → mdf [66, 73, 74] v u → u 73 = nI 0 → Q (some (.int z)) u := by rw [← hQe]; exact fun z u h1 h2 f0 => ⟨z, rfl, h1, h2, f0⟩
  clear hQe
  have hm : mdf [66, 73, 74] v v := mdf.rf
  show ST G mi_Mo_times 0 [(0, .ref 373)] [] v 0 0 Q
  refine ST.lift (fun _ _ k => T_aload_n (v := .ref 373) d_Mo_times_0 rfl (Or.inr ⟨_, rfl⟩) k) ?_
  refine ST.lift (fun _ _ k => T_iconst (v := nI 0) d_Mo_times_1 (by decide) k) ?_
  refine S_putfield (v' := va_up v 66 (nI 0)) d_Mo_times_2 (fp_Mo_316 _) (w373 _) (Nat.le_of_ble_eq_true rfl) ⟨rfl, rfl⟩ (u373_0 _ _) ?_
  have hv2 := hv.off (j := 66) (x := (nI 0)) (by decide)
  have hm3 := hm.go (mdf.up (v := v) (j := 66) (x := (nI 0))) (by intro i hi; simp only [List.mem_cons, List.not_mem_nil, or_false] at hi ⊢ <;> omega)
  have e_u1 : (va_up v 66 (nI 0)) 66 = (nI 0) := by simp [va_up]
  generalize va_up v 66 (nI 0) = u1 at hv2 hm3 e_u1 ⊢
  refine ST.lift (fun _ _ k => T_aload_n (v := .ref 373) d_Mo_times_5 rfl (Or.inr ⟨_, rfl⟩) k) ?_
  obtain ⟨k4, hk4, ek4⟩ := hv2.get (j := 73) (c := 200) (by decide)
  refine S_getfield d_Mo_times_6 fg_Mo_344 (w373 _) rfl ?_
  refine S_topi (y := nI k4) (ek4) ?_
  refine ST.lift (fun _ _ k => T_istore_n (L' := [(1, .int (nI k4)), (0, .ref 373)]) d_Mo_times_9 (by decide) rfl k) ?_
  refine ST.lift (fun _ _ k => T_aload_n (v := .ref 373) d_Mo_times_10 rfl (Or.inr ⟨_, rfl⟩) k) ?_
  refine ST.lift (fun _ _ k => T_iconst (v := nI 0) d_Mo_times_11 (by decide) k) ?_
  refine S_putfield (v' := va_up u1 73 (nI 0)) d_Mo_times_12 (fp_Mo_344 _) (w373 _) (Nat.le_of_ble_eq_true rfl) ⟨rfl, rfl⟩ (u373_43 _ _) ?_
  have hv6 := hv2.up (j := 73) (c := 200) (k := 0) (by decide) (by omega)
  have hm7 := hm3.go (mdf.up (v := u1) (j := 73) (x := (nI 0))) (by intro i hi; simp only [List.mem_cons, List.not_mem_nil, or_false] at hi ⊢ <;> omega)
  have e_u5 : (va_up u1 73 (nI 0)) 73 = (nI 0) := by simp [va_up]
  have e8 : (va_up u1 73 (nI 0)) 66 = nI 0 := by simp only [va_up]; exact e_u1
  generalize va_up u1 73 (nI 0) = u5 at hv6 hm7 e_u5 e8 ⊢
  refine ST.lift (fun _ _ k => T_iload_n d_Mo_times_15 rfl k) ?_
  refine ST.lift (fun _ _ k => T_bipush (v := nI 64) d_Mo_times_16 (by decide) k) ?_
  refine S_icmp_geN d_Mo_times_18 rfl (by omega) (by omega) (fun c9 => ?_) (fun c9 => ?_)
  · refine ST.lift (fun _ _ k => T_aload_n (v := .ref 373) d_Mo_times_23 rfl (Or.inr ⟨_, rfl⟩) k) ?_
    refine ST.lift (fun _ _ k => T_bipush (v := nI 12) d_Mo_times_24 (by decide) k) ?_
    refine ST.lift (fun _ _ k => T_aload_n (v := .ref 373) d_Mo_times_26 rfl (Or.inr ⟨_, rfl⟩) k) ?_
    refine S_getfield d_Mo_times_27 fg_Mo_341 (w373 _) rfl ?_
    refine ST.lift (fun _ _ k => T_bipush (v := nI 32) d_Mo_times_30 (by decide) k) ?_
    refine S_virtual (as := [.int (nI 12), .ref 409, .int (nI 32)]) (rest := []) (b := 373) d_Mo_times_32 rfl (jw_Mo_decode.jo (by decide)) lm_Mo_502 ji_Mo_decode js_Mo_decode (w373 _) rfl rfl rfl (Nat.le_of_ble_eq_true rfl) (by decide) (by decide) (c_Mo_decode G u5 12 (by omega) 409 200 (by decide) a409 (by omega) 32 (by omega)) (fun r v' hq => ?_)
    obtain ⟨z10, hz10, hr, hv⟩ := hq
    rw [hr, hv]
    clear hr hv r v'
    show ST G mi_Mo_times 35 [(1, .int (nI k4)), (0, .ref 373)] [.int (nI z10)] u5 0 0 _
    refine S_if_neN d_Mo_times_35 rfl (by omega) (fun c11 => ?_) (fun c11 => ?_)
    · refine ST.lift (fun _ _ k => T_aload_n (v := .ref 373) d_Mo_times_40 rfl (Or.inr ⟨_, rfl⟩) k) ?_
      refine ST.lift (fun _ _ k => T_aload_n (v := .ref 373) d_Mo_times_41 rfl (Or.inr ⟨_, rfl⟩) k) ?_
      refine S_getfield d_Mo_times_42 fg_Mo_341 (w373 _) rfl ?_
      refine ST.lift (fun _ _ k => T_iconst (v := nI 0) d_Mo_times_45 (by decide) k) ?_
      refine ST.lift (fun _ _ k => T_bipush (v := nI 32) d_Mo_times_46 (by decide) k) ?_
      refine S_virtual (as := [.ref 409, .int (nI 0), .int (nI 32)]) (rest := []) (b := 373) d_Mo_times_48 rfl (jw_Mo_scalarOf.jo (by decide)) lm_Mo_287 ji_Mo_scalarOf js_Mo_scalarOf (w373 _) rfl rfl rfl (Nat.le_of_ble_eq_true rfl) (by decide) (by decide) (c_Mo_scalarOf G u5 409 200 (by decide) a409 (by omega) 0 (by omega) 32 (by omega)) (fun r v' hq => ?_)
      rw [hq.1, hq.2]
      clear hq r v'
      show ST G mi_Mo_times 51 [(1, .int (nI k4)), (0, .ref 373)] [] u5 0 0 _
      refine ST.lift (fun _ _ k => T_aload_n (v := .ref 373) d_Mo_times_51 rfl (Or.inr ⟨_, rfl⟩) k) ?_
      refine ST.lift (fun _ _ k => T_bipush (v := nI 12) d_Mo_times_52 (by decide) k) ?_
      refine ST.lift (fun _ _ k => T_bipush (v := nI 12) d_Mo_times_54 (by decide) k) ?_
      refine S_virtual (as := [.int (nI 12), .int (nI 12)]) (rest := []) (b := 373) d_Mo_times_56 rfl (jw_Mo_timesPoint.jo (by decide)) lm_Mo_290 ji_Mo_timesPoint js_Mo_timesPoint (w373 _) rfl rfl rfl (Nat.le_of_ble_eq_true rfl) (by decide) (by decide) (c_Mo_timesPoint G u5 12 (by omega) 12 (by omega)) (fun r v' hq => ?_)
      rw [hq.1, hq.2]
      clear hq r v'
      show ST G mi_Mo_times 59 [(1, .int (nI k4)), (0, .ref 373)] [] u5 0 0 _
      refine ST.lift (fun _ _ k => T_aload_n (v := .ref 373) d_Mo_times_59 rfl (Or.inr ⟨_, rfl⟩) k) ?_
      refine ST.lift (fun _ _ k => T_bipush (v := nI 12) d_Mo_times_60 (by decide) k) ?_
      refine S_virtual (as := [.int (nI 12)]) (rest := []) (b := 373) d_Mo_times_62 rfl (jw_Mo_coded.jo (by decide)) lm_Mo_498 ji_Mo_coded js_Mo_coded (w373 _) rfl rfl rfl (Nat.le_of_ble_eq_true rfl) (by decide) (by decide) (c_Mo_coded_x G u5 12 (by omega) hv6) (fun r u12 hq => ?_)
      obtain ⟨hr, hv13, hm14⟩ := hq
      rw [hr]
      clear hr r
      have hm15 := hm7.go hm14 (by intro i hi; simp only [List.mem_cons, List.not_mem_nil, or_false] at hi ⊢ <;> omega)
      have e16 : u12 66 = nI 0 := (hm14 66 (by decide)).trans e8
      have e17 : u12 73 = nI 0 := (hm14 73 (by decide)).trans e_u5
      show ST G mi_Mo_times 65 [(1, .int (nI k4)), (0, .ref 373)] [.int (nI 32)] u12 0 0 _
      exact S_ret d_Mo_times_65 rfl rfl (by decide) (by decide) (hQ _ _ hv13 hm15 (e17.trans (congrArg nI (by omega))))
    · refine ST.lift (fun _ _ k => T_iconst (v := -1) d_Mo_times_38 (by decide) k) ?_
      exact S_ret d_Mo_times_39 rfl rfl (by decide) (by decide) (hQ _ _ hv6 hm7 (e_u5.trans (congrArg nI (by omega))))
  · refine ST.lift (fun _ _ k => T_iconst (v := -1) d_Mo_times_21 (by decide) k) ?_
    exact S_ret d_Mo_times_22 rfl rfl (by decide) (by decide) (hQ _ _ hv6 hm7 (e_u5.trans (congrArg nI (by omega))))
set_option maxRecDepth 100000 in
set_option maxHeartbeats 4000000 in
theorem c_Mo_times_few (G : GX) (v : Nat → Int32) (t : Nat) (e73 : v 73 = nI t) (ht : t < 64) (hv : okv v) : CS G mi_Mo_times [.ref 373] v (fun r v' => r = some (.int (-1)) ∧ okv v' ∧ mdf [66, 73, 74] v v' ∧ v' 73 = nI 0) := by
  refine CS.of (by decide) (Nat.le_of_ble_eq_true rfl) ?_
  generalize hQe : (fun (r : Option Value) (v' : Nat → Int32) => r = some (.int (-1)) ∧ okv v' ∧ mdf [66, 73, 74] v v' ∧ v' 73 = nI 0) = Q
  have hQ : ∀ u, okv u → mdf [66, 73, 74] v u → u 73 = nI 0 → Q (some (.int (-1))) u := by rw [← hQe]; exact fun u h1 h2 f0 => ⟨rfl, h1, h2, f0⟩
  clear hQe
  have hm : mdf [66, 73, 74] v v := mdf.rf
  show ST G mi_Mo_times 0 [(0, .ref 373)] [] v 0 0 Q
  refine ST.lift (fun _ _ k => T_aload_n (v := .ref 373) d_Mo_times_0 rfl (Or.inr ⟨_, rfl⟩) k) ?_
  refine ST.lift (fun _ _ k => T_iconst (v := nI 0) d_Mo_times_1 (by decide) k) ?_
  refine S_putfield (v' := va_up v 66 (nI 0)) d_Mo_times_2 (fp_Mo_316 _) (w373 _) (Nat.le_of_ble_eq_true rfl) ⟨rfl, rfl⟩ (u373_0 _ _) ?_
  have hv2 := hv.off (j := 66) (x := (nI 0)) (by decide)
  have hm3 := hm.go (mdf.up (v := v) (j := 66) (x := (nI 0))) (by intro i hi; simp only [List.mem_cons, List.not_mem_nil, or_false] at hi ⊢ <;> omega)
  have e_u1 : (va_up v 66 (nI 0)) 66 = (nI 0) := by simp [va_up]
  have e4 : (va_up v 66 (nI 0)) 73 = nI t := by simp only [va_up]; exact e73
  generalize va_up v 66 (nI 0) = u1 at hv2 hm3 e_u1 e4 ⊢
  refine ST.lift (fun _ _ k => T_aload_n (v := .ref 373) d_Mo_times_5 rfl (Or.inr ⟨_, rfl⟩) k) ?_
  refine S_getfield d_Mo_times_6 fg_Mo_344 (w373 _) rfl ?_
  refine S_topi (y := nI t) (e4) ?_
  refine ST.lift (fun _ _ k => T_istore_n (L' := [(1, .int (nI t)), (0, .ref 373)]) d_Mo_times_9 (by decide) rfl k) ?_
  refine ST.lift (fun _ _ k => T_aload_n (v := .ref 373) d_Mo_times_10 rfl (Or.inr ⟨_, rfl⟩) k) ?_
  refine ST.lift (fun _ _ k => T_iconst (v := nI 0) d_Mo_times_11 (by decide) k) ?_
  refine S_putfield (v' := va_up u1 73 (nI 0)) d_Mo_times_12 (fp_Mo_344 _) (w373 _) (Nat.le_of_ble_eq_true rfl) ⟨rfl, rfl⟩ (u373_43 _ _) ?_
  have hv6 := hv2.up (j := 73) (c := 200) (k := 0) (by decide) (by omega)
  have hm7 := hm3.go (mdf.up (v := u1) (j := 73) (x := (nI 0))) (by intro i hi; simp only [List.mem_cons, List.not_mem_nil, or_false] at hi ⊢ <;> omega)
  have e_u5 : (va_up u1 73 (nI 0)) 73 = (nI 0) := by simp [va_up]
  have e8 : (va_up u1 73 (nI 0)) 66 = nI 0 := by simp only [va_up]; exact e_u1
  generalize va_up u1 73 (nI 0) = u5 at hv6 hm7 e_u5 e8 ⊢
  refine ST.lift (fun _ _ k => T_iload_n d_Mo_times_15 rfl k) ?_
  refine ST.lift (fun _ _ k => T_bipush (v := nI 64) d_Mo_times_16 (by decide) k) ?_
  refine S_icmp_geN d_Mo_times_18 rfl (by omega) (by omega) (fun c => by first | exact absurd c (by omega) | exact c.elim | exact absurd c (by decide) | exact absurd (by assumption) c | exact absurd c (by assumption)) (fun _ => ?_)
  refine ST.lift (fun _ _ k => T_iconst (v := -1) d_Mo_times_21 (by decide) k) ?_
  exact S_ret d_Mo_times_22 rfl rfl (by decide) (by decide) (hQ _ hv6 hm7 (e_u5.trans (congrArg nI (by omega))))
set_option maxRecDepth 100000 in
set_option maxHeartbeats 4000000 in
theorem c_Mo_enroll_in (G : GX) (v : Nat → Int32) (usr : Nat) (b_usr : usr ≤ 7) (e67 : v 67 = nI 0) (hv : okv v) : CS G mi_Mo_enroll [.ref 373, .int (nI usr)] v (fun r v' => r = some (.int (nI 0)) ∧ okv v' ∧ mdf [66, 67, 73, 70, 68, 69, 72, 75] v v' ∧ v' 67 = nI 0 ∧ v' 73 = nI 0) := by
  refine CS.of (by decide) (Nat.le_of_ble_eq_true rfl) ?_
  generalize hQe : (fun (r : Option Value) (v' : Nat → Int32) => r = some (.int (nI 0)) ∧ okv v' ∧ mdf [66, 67, 73, 70, 68, 69, 72, 75] v v' ∧ v' 67 = nI 0 ∧ v' 73 = nI 0) = Q
  have hQ : ∀ u, okv u → mdf [66, 67, 73, 70, 68, 69, 72, 75] v u → u 67 = nI 0 → u 73 = nI 0 → Q (some (.int (nI 0))) u := by rw [← hQe]; exact fun u h1 h2 f0 f1 => ⟨rfl, h1, h2, f0, f1⟩
  clear hQe
  have hm : mdf [66, 67, 73, 70, 68, 69, 72, 75] v v := mdf.rf
  show ST G mi_Mo_enroll 0 [(0, .ref 373), (1, .int (nI usr))] [] v 0 0 Q
  refine ST.lift (fun _ _ k => T_aload_n (v := .ref 373) d_Mo_enroll_0 rfl (Or.inr ⟨_, rfl⟩) k) ?_
  refine ST.lift (fun _ _ k => T_iconst (v := nI 0) d_Mo_enroll_1 (by decide) k) ?_
  refine S_putfield (v' := va_up v 66 (nI 0)) d_Mo_enroll_2 (fp_Mo_316 _) (w373 _) (Nat.le_of_ble_eq_true rfl) ⟨rfl, rfl⟩ (u373_0 _ _) ?_
  have hv2 := hv.off (j := 66) (x := (nI 0)) (by decide)
  have hm3 := hm.go (mdf.up (v := v) (j := 66) (x := (nI 0))) (by intro i hi; simp only [List.mem_cons, List.not_mem_nil, or_false] at hi ⊢ <;> omega)
  have e_u1 : (va_up v 66 (nI 0)) 66 = (nI 0) := by simp [va_up]
  have e4 : (va_up v 66 (nI 0)) 67 = nI 0 := by simp only [va_up]; exact e67
  generalize va_up v 66 (nI 0) = u1 at hv2 hm3 e_u1 e4 ⊢
  refine ST.lift (fun _ _ k => T_aload_n (v := .ref 373) d_Mo_enroll_5 rfl (Or.inr ⟨_, rfl⟩) k) ?_
  obtain ⟨k5, hk5, ek5⟩ := hv2.get (j := 73) (c := 200) (by decide)
  refine S_getfield d_Mo_enroll_6 fg_Mo_344 (w373 _) rfl ?_
  refine S_topi (y := nI k5) (ek5) ?_
  refine ST.lift (fun _ _ k => T_istore_n (L' := [(2, .int (nI k5)), (0, .ref 373), (1, .int (nI usr))]) d_Mo_enroll_9 (by decide) rfl k) ?_
  refine ST.lift (fun _ _ k => T_aload_n (v := .ref 373) d_Mo_enroll_10 rfl (Or.inr ⟨_, rfl⟩) k) ?_
  refine ST.lift (fun _ _ k => T_iconst (v := nI 0) d_Mo_enroll_11 (by decide) k) ?_
  refine S_putfield (v' := va_up u1 73 (nI 0)) d_Mo_enroll_12 (fp_Mo_344 _) (w373 _) (Nat.le_of_ble_eq_true rfl) ⟨rfl, rfl⟩ (u373_43 _ _) ?_
  have hv7 := hv2.up (j := 73) (c := 200) (k := 0) (by decide) (by omega)
  have hm8 := hm3.go (mdf.up (v := u1) (j := 73) (x := (nI 0))) (by intro i hi; simp only [List.mem_cons, List.not_mem_nil, or_false] at hi ⊢ <;> omega)
  have e_u6 : (va_up u1 73 (nI 0)) 73 = (nI 0) := by simp [va_up]
  have e9 : (va_up u1 73 (nI 0)) 67 = nI 0 := by simp only [va_up]; exact e4
  have e10 : (va_up u1 73 (nI 0)) 66 = nI 0 := by simp only [va_up]; exact e_u1
  generalize va_up u1 73 (nI 0) = u6 at hv7 hm8 e_u6 e9 e10 ⊢
  refine ST.lift (fun _ _ k => T_iload_n d_Mo_enroll_15 rfl k) ?_
  refine S_if_ltN d_Mo_enroll_16 rfl (by omega) (fun c => by first | exact absurd c (by omega) | exact c.elim | exact absurd c (by decide) | exact absurd (by assumption) c | exact absurd c (by assumption)) (fun _ => ?_)
  refine ST.lift (fun _ _ k => T_iload_n d_Mo_enroll_19 rfl k) ?_
  refine ST.lift (fun _ _ k => T_bipush (v := nI 7) d_Mo_enroll_20 (by decide) k) ?_
  refine S_icmp_leN d_Mo_enroll_22 rfl (by omega) (by omega) (fun c11 => ?_) (fun c11 => ?_)
  · refine ST.lift (fun _ _ k => T_aload_n (v := .ref 373) d_Mo_enroll_27 rfl (Or.inr ⟨_, rfl⟩) k) ?_
    refine ST.lift (fun _ _ k => T_iload_n d_Mo_enroll_28 rfl k) ?_
    refine S_virtual (as := [.int (nI usr)]) (rest := []) (b := 373) d_Mo_enroll_29 rfl (jw_Mo_userKey.jo (by decide)) lm_Mo_530 ji_Mo_userKey js_Mo_userKey (w373 _) rfl rfl rfl (Nat.le_of_ble_eq_true rfl) (by decide) (by decide) (c_Mo_userKey G u6 (nI usr) 0 e9 (by omega) hv7) (fun r u12 hq => ?_)
    obtain ⟨hr, hv13, hm14, es_u12⟩ := hq
    rw [hr]
    clear hr r
    have hm16 := hm8.go hm14 (by intro i hi; simp only [List.mem_cons, List.not_mem_nil, or_false] at hi ⊢ <;> omega)
    have e17 : u12 66 = nI 0 := (hm14 66 (by decide)).trans e10
    have e18 : u12 73 = nI 0 := (hm14 73 (by decide)).trans e_u6
    show ST G mi_Mo_enroll 32 [(2, .int (nI k5)), (0, .ref 373), (1, .int (nI usr))] [] u12 0 0 _
    refine ST.lift (fun _ _ k => T_aload_n (v := .ref 373) d_Mo_enroll_32 rfl (Or.inr ⟨_, rfl⟩) k) ?_
    refine ST.lift (fun _ _ k => T_aload_n (v := .ref 373) d_Mo_enroll_33 rfl (Or.inr ⟨_, rfl⟩) k) ?_
    refine S_getfield d_Mo_enroll_34 fg_Mo_374 (w373 _) rfl ?_
    refine ST.lift (fun _ _ k => T_iconst (v := nI 0) d_Mo_enroll_37 (by decide) k) ?_
    refine S_virtual (as := [.ref 418, .int (nI 0)]) (rest := []) (b := 373) d_Mo_enroll_38 rfl (jw_Mo_putScalar.jo (by decide)) lm_Mo_489 ji_Mo_putScalar js_Mo_putScalar (w373 _) rfl rfl rfl (Nat.le_of_ble_eq_true rfl) (by decide) (by decide) (c_Mo_putScalar G u12 418 16 (by decide) a418 (by omega) 0 (by omega)) (fun r v' hq => ?_)
    rw [hq.1, hq.2]
    clear hq r v'
    show ST G mi_Mo_enroll 41 [(2, .int (nI k5)), (0, .ref 373), (1, .int (nI usr))] [] u12 0 0 _
    refine ST.lift (fun _ _ k => T_aload_n (v := .ref 373) d_Mo_enroll_41 rfl (Or.inr ⟨_, rfl⟩) k) ?_
    refine ST.lift (fun _ _ k => T_bipush (v := nI 12) d_Mo_enroll_42 (by decide) k) ?_
    refine ST.lift (fun _ _ k => T_aload_n (v := .ref 373) d_Mo_enroll_44 rfl (Or.inr ⟨_, rfl⟩) k) ?_
    refine S_getfield d_Mo_enroll_45 fg_Mo_341 (w373 _) rfl ?_
    refine ST.lift (fun _ _ k => T_iload_n d_Mo_enroll_48 rfl k) ?_
    refine S_virtual (as := [.int (nI 12), .ref 409, .int (nI k5)]) (rest := []) (b := 373) d_Mo_enroll_49 rfl (jw_Mo_groupPoint.jo (by decide)) lm_Mo_495 ji_Mo_groupPoint js_Mo_groupPoint (w373 _) rfl rfl rfl (Nat.le_of_ble_eq_true rfl) (by decide) (by decide) (c_Mo_groupPoint G u12 12 (by omega) 409 200 (by decide) a409 (by omega) k5 (by omega) 0 es_u12 (by omega) hv13) (fun r u19 hq => ?_)
    obtain ⟨hr, hv20, hm21, es_u19⟩ := hq
    rw [hr]
    clear hr r
    have hm23 := hm16.go hm21 (by intro i hi; simp only [List.mem_cons, List.not_mem_nil, or_false] at hi ⊢ <;> omega)
    have e24 : u19 66 = nI 0 := (hm21 66 (by decide)).trans e17
    have e25 : u19 73 = nI 0 := (hm21 73 (by decide)).trans e18
    show ST G mi_Mo_enroll 52 [(2, .int (nI k5)), (0, .ref 373), (1, .int (nI usr))] [] u19 0 0 _
    refine ST.lift (fun _ _ k => T_aload_n (v := .ref 373) d_Mo_enroll_52 rfl (Or.inr ⟨_, rfl⟩) k) ?_
    refine ST.lift (fun _ _ k => T_aload_n (v := .ref 373) d_Mo_enroll_53 rfl (Or.inr ⟨_, rfl⟩) k) ?_
    refine S_getfield d_Mo_enroll_54 fg_Mo_374 (w373 _) rfl ?_
    refine ST.lift (fun _ _ k => T_iconst (v := nI 0) d_Mo_enroll_57 (by decide) k) ?_
    refine S_virtual (as := [.ref 418, .int (nI 0)]) (rest := []) (b := 373) d_Mo_enroll_58 rfl (jw_Mo_takeScalar.jo (by decide)) lm_Mo_533 ji_Mo_takeScalar js_Mo_takeScalar (w373 _) rfl rfl rfl (Nat.le_of_ble_eq_true rfl) (by decide) (by decide) (c_Mo_takeScalar G u19 418 16 (by decide) a418 (by omega) 0 (by omega)) (fun r v' hq => ?_)
    rw [hq.1, hq.2]
    clear hq r v'
    show ST G mi_Mo_enroll 61 [(2, .int (nI k5)), (0, .ref 373), (1, .int (nI usr))] [] u19 0 0 _
    refine ST.lift (fun _ _ k => T_aload_n (v := .ref 373) d_Mo_enroll_61 rfl (Or.inr ⟨_, rfl⟩) k) ?_
    refine ST.lift (fun _ _ k => T_bipush (v := nI 12) d_Mo_enroll_62 (by decide) k) ?_
    refine ST.lift (fun _ _ k => T_bipush (v := nI 12) d_Mo_enroll_64 (by decide) k) ?_
    refine S_virtual (as := [.int (nI 12), .int (nI 12)]) (rest := []) (b := 373) d_Mo_enroll_66 rfl (jw_Mo_timesPoint.jo (by decide)) lm_Mo_290 ji_Mo_timesPoint js_Mo_timesPoint (w373 _) rfl rfl rfl (Nat.le_of_ble_eq_true rfl) (by decide) (by decide) (c_Mo_timesPoint G u19 12 (by omega) 12 (by omega)) (fun r v' hq => ?_)
    rw [hq.1, hq.2]
    clear hq r v'
    show ST G mi_Mo_enroll 69 [(2, .int (nI k5)), (0, .ref 373), (1, .int (nI usr))] [] u19 0 0 _
    refine ST.lift (fun _ _ k => T_aload_n (v := .ref 373) d_Mo_enroll_69 rfl (Or.inr ⟨_, rfl⟩) k) ?_
    refine ST.lift (fun _ _ k => T_bipush (v := nI 12) d_Mo_enroll_70 (by decide) k) ?_
    refine S_virtual (as := [.int (nI 12)]) (rest := []) (b := 373) d_Mo_enroll_72 rfl (jw_Mo_code.jo (by decide)) lm_Mo_293 ji_Mo_code js_Mo_code (w373 _) rfl rfl rfl (Nat.le_of_ble_eq_true rfl) (by decide) (by decide) (c_Mo_code G u19 12 (by omega)) (fun r v' hq => ?_)
    rw [hq.1, hq.2]
    clear hq r v'
    show ST G mi_Mo_enroll 75 [(2, .int (nI k5)), (0, .ref 373), (1, .int (nI usr))] [] u19 0 0 _
    refine ST.lift (fun _ _ k => T_aload_n (v := .ref 373) d_Mo_enroll_75 rfl (Or.inr ⟨_, rfl⟩) k) ?_
    refine ST.lift (fun _ _ k => T_aload_n (v := .ref 373) d_Mo_enroll_76 rfl (Or.inr ⟨_, rfl⟩) k) ?_
    refine S_getfield d_Mo_enroll_77 fg_Mo_341 (w373 _) rfl ?_
    refine ST.lift (fun _ _ k => T_iconst (v := nI 0) d_Mo_enroll_80 (by decide) k) ?_
    refine ST.lift (fun _ _ k => T_iload_n d_Mo_enroll_81 rfl k) ?_
    refine S_virtual (as := [.ref 409, .int (nI 0), .int (nI k5)]) (rest := []) (b := 373) d_Mo_enroll_82 rfl (jw_Mo_second.jo (by decide)) lm_Mo_536 ji_Mo_second js_Mo_second (w373 _) rfl rfl rfl (Nat.le_of_ble_eq_true rfl) (by decide) (by decide) (c_Mo_second G u19 409 200 (by decide) a409 (by omega) 0 (by omega) k5 (by omega) 0 es_u19 (by omega) hv20) (fun r u26 hq => ?_)
    obtain ⟨hr, hv27, hm28, es_u26⟩ := hq
    rw [hr]
    clear hr r
    have hm30 := hm23.go hm28 (by intro i hi; simp only [List.mem_cons, List.not_mem_nil, or_false] at hi ⊢ <;> omega)
    have e31 : u26 66 = nI 0 := (hm28 66 (by decide)).trans e24
    have e32 : u26 73 = nI 0 := (hm28 73 (by decide)).trans e25
    show ST G mi_Mo_enroll 85 [(2, .int (nI k5)), (0, .ref 373), (1, .int (nI usr))] [] u26 0 0 _
    refine ST.lift (fun _ _ k => T_aload_n (v := .ref 373) d_Mo_enroll_85 rfl (Or.inr ⟨_, rfl⟩) k) ?_
    refine S_virtual (as := []) (rest := []) (b := 373) d_Mo_enroll_86 rfl (jw_Mo_chance.jo (by decide)) lm_Mo_304 ji_Mo_chance js_Mo_chance (w373 _) rfl rfl rfl (Nat.le_of_ble_eq_true rfl) (by decide) (by decide) (c_Mo_chance G u26 0 es_u26 (by omega) hv27) (fun r u33 hq => ?_)
    obtain ⟨hr, hv34, hm35, es_u33⟩ := hq
    rw [hr]
    clear hr r
    have hm37 := hm30.go hm35 (by intro i hi; simp only [List.mem_cons, List.not_mem_nil, or_false] at hi ⊢ <;> omega)
    have e38 : u33 66 = nI 0 := (hm35 66 (by decide)).trans e31
    have e39 : u33 73 = nI 0 := (hm35 73 (by decide)).trans e32
    show ST G mi_Mo_enroll 89 [(2, .int (nI k5)), (0, .ref 373), (1, .int (nI usr))] [] u33 0 0 _
    refine ST.lift (fun _ _ k => T_iconst (v := nI 0) d_Mo_enroll_89 (by decide) k) ?_
    refine ST.lift (fun _ _ k => T_istore_n (L' := [(3, .int (nI 0)), (2, .int (nI k5)), (0, .ref 373), (1, .int (nI usr))]) d_Mo_enroll_90 (by decide) rfl k) ?_
    have lp43 : ∀ (n41 k40 : Nat), 32 - k40 = n41 → 0 ≤ k40 ∧ k40 ≤ 0 + 32 → ST G mi_Mo_enroll 91 [(3, .int (nI k40)), (2, .int (nI k5)), (0, .ref 373), (1, .int (nI usr))] [] u33 0 0 Q := by
      intro n41
      induction n41 using Nat.strongRecOn with
      | _ n41 ih42 =>
        intro k40 h44 h45
        refine ST.lift (fun _ _ k => T_iload_n d_Mo_enroll_91 rfl k) ?_
        refine ST.lift (fun _ _ k => T_bipush (v := nI 32) d_Mo_enroll_92 (by decide) k) ?_
        refine S_icmp_geN d_Mo_enroll_94 rfl (by omega) (by omega) (fun c46 => ?_) (fun c46 => ?_)
        · refine ST.lift (fun _ _ k => T_aload_n (v := .ref 373) d_Mo_enroll_115 rfl (Or.inr ⟨_, rfl⟩) k) ?_
          refine ST.lift (fun _ _ k => T_aload_n (v := .ref 373) d_Mo_enroll_116 rfl (Or.inr ⟨_, rfl⟩) k) ?_
          refine S_getfield d_Mo_enroll_117 fg_Mo_325 (w373 _) rfl ?_
          refine ST.lift (fun _ _ k => T_iconst (v := nI 0) d_Mo_enroll_120 (by decide) k) ?_
          refine S_virtual (as := [.ref 404, .int (nI 0)]) (rest := []) (b := 373) d_Mo_enroll_121 rfl (jw_Mo_opens.jo (by decide)) lm_Mo_539 ji_Mo_opens js_Mo_opens (w373 _) rfl rfl rfl (Nat.le_of_ble_eq_true rfl) (by decide) (by decide) (c_Mo_opens G u33 404 32 (by decide) a404 (by omega) 0 (by omega) 0 es_u33 (by omega) hv34) (fun r u48 hq => ?_)
          obtain ⟨hr, hv49, hm50, es_u48⟩ := hq
          rw [hr]
          clear hr r
          have hm52 := hm37.go hm50 (by intro i hi; simp only [List.mem_cons, List.not_mem_nil, or_false] at hi ⊢ <;> omega)
          have e53 : u48 66 = nI 0 := (hm50 66 (by decide)).trans e38
          have e54 : u48 73 = nI 0 := (hm50 73 (by decide)).trans e39
          show ST G mi_Mo_enroll 124 [(3, .int (nI k40)), (2, .int (nI k5)), (0, .ref 373), (1, .int (nI usr))] [] u48 0 0 _
          refine ST.lift (fun _ _ k => T_aload_n (v := .ref 373) d_Mo_enroll_124 rfl (Or.inr ⟨_, rfl⟩) k) ?_
          refine S_virtual (as := []) (rest := []) (b := 373) d_Mo_enroll_125 rfl (jw_Mo_maskOf.jo (by decide)) lm_Mo_542 ji_Mo_maskOf js_Mo_maskOf (w373 _) rfl rfl rfl (Nat.le_of_ble_eq_true rfl) (by decide) (by decide) (c_Mo_maskOf G u48 0 es_u48 (by omega) hv49) (fun r u55 hq => ?_)
          obtain ⟨hr, hv56, hm57, es_u55⟩ := hq
          rw [hr]
          clear hr r
          have hm59 := hm52.go hm57 (by intro i hi; simp only [List.mem_cons, List.not_mem_nil, or_false] at hi ⊢ <;> omega)
          have e60 : u55 66 = nI 0 := (hm57 66 (by decide)).trans e53
          have e61 : u55 73 = nI 0 := (hm57 73 (by decide)).trans e54
          show ST G mi_Mo_enroll 128 [(3, .int (nI k40)), (2, .int (nI k5)), (0, .ref 373), (1, .int (nI usr))] [] u55 0 0 _
          refine ST.lift (fun _ _ k => T_iconst (v := nI 0) d_Mo_enroll_128 (by decide) k) ?_
          refine ST.lift (fun _ _ k => T_istore_n (L' := [(3, .int (nI 0)), (2, .int (nI k5)), (0, .ref 373), (1, .int (nI usr))]) d_Mo_enroll_129 (by decide) rfl k) ?_
          have lp65 : ∀ (n63 k62 : Nat), 32 - k62 = n63 → 0 ≤ k62 ∧ k62 ≤ 0 + 32 → ST G mi_Mo_enroll 130 [(3, .int (nI k62)), (2, .int (nI k5)), (0, .ref 373), (1, .int (nI usr))] [] u55 0 0 Q := by
            intro n63
            induction n63 using Nat.strongRecOn with
            | _ n63 ih64 =>
              intro k62 h66 h67
              refine ST.lift (fun _ _ k => T_iload_n d_Mo_enroll_130 rfl k) ?_
              refine ST.lift (fun _ _ k => T_bipush (v := nI 32) d_Mo_enroll_131 (by decide) k) ?_
              refine S_icmp_geN d_Mo_enroll_133 rfl (by omega) (by omega) (fun c68 => ?_) (fun c68 => ?_)
              · refine ST.lift (fun _ _ k => T_iconst (v := nI 0) d_Mo_enroll_181 (by decide) k) ?_
                refine ST.lift (fun _ _ k => T_istore_n (L' := [(3, .int (nI 0)), (2, .int (nI k5)), (0, .ref 373), (1, .int (nI usr))]) d_Mo_enroll_182 (by decide) rfl k) ?_
                have lp74 : ∀ (n72 k71 : Nat), 64 - k71 = n72 → 0 ≤ k71 ∧ k71 ≤ 0 + 64 → ST G mi_Mo_enroll 183 [(3, .int (nI k71)), (2, .int (nI k5)), (0, .ref 373), (1, .int (nI usr))] [] u55 0 0 Q := by
                  intro n72
                  induction n72 using Nat.strongRecOn with
                  | _ n72 ih73 =>
                    intro k71 h75 h76
                    refine ST.lift (fun _ _ k => T_iload_n d_Mo_enroll_183 rfl k) ?_
                    refine ST.lift (fun _ _ k => T_bipush (v := nI 64) d_Mo_enroll_184 (by decide) k) ?_
                    refine S_icmp_geN d_Mo_enroll_186 rfl (by omega) (by omega) (fun c77 => ?_) (fun c77 => ?_)
                    · refine ST.lift (fun _ _ k => T_aload_n (v := .ref 373) d_Mo_enroll_238 rfl (Or.inr ⟨_, rfl⟩) k) ?_
                      refine S_getfield d_Mo_enroll_239 fg_Mo_328 (w373 _) rfl ?_
                      refine ST.lift (fun _ _ k => T_iload_n d_Mo_enroll_242 rfl k) ?_
                      refine ST.lift (fun _ _ k => T_iconst (v := nI 1) d_Mo_enroll_243 (by decide) k) ?_
                      refine S_zastore d_Mo_enroll_244 (by decide) a405 (vp_in_nI (by omega) (by omega)) ?_
                      refine ST.lift (fun _ _ k => T_iconst (v := nI 0) d_Mo_enroll_245 (by decide) k) ?_
                      refine S_topi (y := nI 0) (congrArg nI (by omega)) ?_
                      exact S_ret d_Mo_enroll_246 rfl rfl (by decide) (by decide) (hQ _ hv56 hm59 (es_u55.trans (congrArg nI (by omega))) (e61.trans (congrArg nI (by omega))))
                    · refine ST.lift (fun _ _ k => T_aload_n (v := .ref 373) d_Mo_enroll_189 rfl (Or.inr ⟨_, rfl⟩) k) ?_
                      refine S_getfield d_Mo_enroll_190 fg_Mo_332 (w373 _) rfl ?_
                      refine ST.lift (fun _ _ k => T_sipush (v := nI 192) d_Mo_enroll_193 (by decide) k) ?_
                      refine ST.lift (fun _ _ k => T_iload_n d_Mo_enroll_196 rfl k) ?_
                      refine S_imulN d_Mo_enroll_197 ?_
                      refine ST.lift (fun _ _ k => T_bipush (v := nI 32) d_Mo_enroll_198 (by decide) k) ?_
                      refine S_iaddN d_Mo_enroll_200 ?_
                      refine ST.lift (fun _ _ k => T_iload_n d_Mo_enroll_201 rfl k) ?_
                      refine S_iaddN d_Mo_enroll_202 ?_
                      refine ST.lift (fun _ _ k => T_aload_n (v := .ref 373) d_Mo_enroll_203 rfl (Or.inr ⟨_, rfl⟩) k) ?_
                      refine S_getfield d_Mo_enroll_204 fg_Mo_371 (w373 _) rfl ?_
                      refine ST.lift (fun _ _ k => T_iload_n d_Mo_enroll_207 rfl k) ?_
                      refine S_iaload d_Mo_enroll_208 a417 (vp_in_nI (by omega) (by omega)) (fun z80 => ?_)
                      refine S_iastore d_Mo_enroll_209 (by decide) a406 (vp_in_nI (by omega) (by omega)) ?_
                      refine ST.lift (fun _ _ k => T_aload_n (v := .ref 373) d_Mo_enroll_210 rfl (Or.inr ⟨_, rfl⟩) k) ?_
                      refine S_getfield d_Mo_enroll_211 fg_Mo_332 (w373 _) rfl ?_
                      refine ST.lift (fun _ _ k => T_sipush (v := nI 192) d_Mo_enroll_214 (by decide) k) ?_
                      refine ST.lift (fun _ _ k => T_iload_n d_Mo_enroll_217 rfl k) ?_
                      refine S_imulN d_Mo_enroll_218 ?_
                      refine ST.lift (fun _ _ k => T_sipush (v := nI 128) d_Mo_enroll_219 (by decide) k) ?_
                      refine S_iaddN d_Mo_enroll_222 ?_
                      refine ST.lift (fun _ _ k => T_iload_n d_Mo_enroll_223 rfl k) ?_
                      refine S_iaddN d_Mo_enroll_224 ?_
                      refine ST.lift (fun _ _ k => T_aload_n (v := .ref 373) d_Mo_enroll_225 rfl (Or.inr ⟨_, rfl⟩) k) ?_
                      refine S_getfield d_Mo_enroll_226 fg_Mo_365 (w373 _) rfl ?_
                      refine ST.lift (fun _ _ k => T_iload_n d_Mo_enroll_229 rfl k) ?_
                      refine S_iaload d_Mo_enroll_230 a415 (vp_in_nI (by omega) (by omega)) (fun z81 => ?_)
                      refine S_iastore d_Mo_enroll_231 (by decide) a406 (vp_in_nI (by omega) (by omega)) ?_
                      refine S_iincN (a := k71) (b := 1) (L' := [(3, .int (nI (k71 + 1))), (2, .int (nI k5)), (0, .ref 373), (1, .int (nI usr))]) d_Mo_enroll_232 (by decide) rfl rfl rfl ?_
                      refine ST.lift (fun _ _ k => T_goto (tgt := 183) d_Mo_enroll_235 rfl k) ?_
                      exact ih73 (64 - (k71 + 1)) (by omega) (k71 + 1)  rfl (by omega)
                exact lp74 _ 0  rfl (by omega)
              · refine ST.lift (fun _ _ k => T_aload_n (v := .ref 373) d_Mo_enroll_136 rfl (Or.inr ⟨_, rfl⟩) k) ?_
                refine S_getfield d_Mo_enroll_137 fg_Mo_332 (w373 _) rfl ?_
                refine ST.lift (fun _ _ k => T_sipush (v := nI 192) d_Mo_enroll_140 (by decide) k) ?_
                refine ST.lift (fun _ _ k => T_iload_n d_Mo_enroll_143 rfl k) ?_
                refine S_imulN d_Mo_enroll_144 ?_
                refine ST.lift (fun _ _ k => T_iload_n d_Mo_enroll_145 rfl k) ?_
                refine S_iaddN d_Mo_enroll_146 ?_
                refine ST.lift (fun _ _ k => T_aload_n (v := .ref 373) d_Mo_enroll_147 rfl (Or.inr ⟨_, rfl⟩) k) ?_
                refine S_getfield d_Mo_enroll_148 fg_Mo_359 (w373 _) rfl ?_
                refine ST.lift (fun _ _ k => T_iload_n d_Mo_enroll_151 rfl k) ?_
                refine S_iaload d_Mo_enroll_152 a413 (vp_in_nI (by omega) (by omega)) (fun z82 => ?_)
                refine S_iastore d_Mo_enroll_153 (by decide) a406 (vp_in_nI (by omega) (by omega)) ?_
                refine ST.lift (fun _ _ k => T_aload_n (v := .ref 373) d_Mo_enroll_154 rfl (Or.inr ⟨_, rfl⟩) k) ?_
                refine S_getfield d_Mo_enroll_155 fg_Mo_332 (w373 _) rfl ?_
                refine ST.lift (fun _ _ k => T_sipush (v := nI 192) d_Mo_enroll_158 (by decide) k) ?_
                refine ST.lift (fun _ _ k => T_iload_n d_Mo_enroll_161 rfl k) ?_
                refine S_imulN d_Mo_enroll_162 ?_
                refine ST.lift (fun _ _ k => T_bipush (v := nI 96) d_Mo_enroll_163 (by decide) k) ?_
                refine S_iaddN d_Mo_enroll_165 ?_
                refine ST.lift (fun _ _ k => T_iload_n d_Mo_enroll_166 rfl k) ?_
                refine S_iaddN d_Mo_enroll_167 ?_
                refine ST.lift (fun _ _ k => T_aload_n (v := .ref 373) d_Mo_enroll_168 rfl (Or.inr ⟨_, rfl⟩) k) ?_
                refine S_getfield d_Mo_enroll_169 fg_Mo_356 (w373 _) rfl ?_
                refine ST.lift (fun _ _ k => T_iload_n d_Mo_enroll_172 rfl k) ?_
                refine S_iaload d_Mo_enroll_173 a412 (vp_in_nI (by omega) (by omega)) (fun z83 => ?_)
                refine S_iastore d_Mo_enroll_174 (by decide) a406 (vp_in_nI (by omega) (by omega)) ?_
                refine S_iincN (a := k62) (b := 1) (L' := [(3, .int (nI (k62 + 1))), (2, .int (nI k5)), (0, .ref 373), (1, .int (nI usr))]) d_Mo_enroll_175 (by decide) rfl rfl rfl ?_
                refine ST.lift (fun _ _ k => T_goto (tgt := 130) d_Mo_enroll_178 rfl k) ?_
                exact ih64 (32 - (k62 + 1)) (by omega) (k62 + 1)  rfl (by omega)
          exact lp65 _ 0  rfl (by omega)
        · refine ST.lift (fun _ _ k => T_aload_n (v := .ref 373) d_Mo_enroll_97 rfl (Or.inr ⟨_, rfl⟩) k) ?_
          refine S_getfield d_Mo_enroll_98 fg_Mo_356 (w373 _) rfl ?_
          refine ST.lift (fun _ _ k => T_iload_n d_Mo_enroll_101 rfl k) ?_
          refine ST.lift (fun _ _ k => T_aload_n (v := .ref 373) d_Mo_enroll_102 rfl (Or.inr ⟨_, rfl⟩) k) ?_
          refine S_getfield d_Mo_enroll_103 fg_Mo_55 (w373 _) rfl ?_
          refine ST.lift (fun _ _ k => T_iload_n d_Mo_enroll_106 rfl k) ?_
          refine S_iaload d_Mo_enroll_107 a383 (vp_in_nI (by omega) (by omega)) (fun z84 => ?_)
          refine S_iastore d_Mo_enroll_108 (by decide) a412 (vp_in_nI (by omega) (by omega)) ?_
          refine S_iincN (a := k40) (b := 1) (L' := [(3, .int (nI (k40 + 1))), (2, .int (nI k5)), (0, .ref 373), (1, .int (nI usr))]) d_Mo_enroll_109 (by decide) rfl rfl rfl ?_
          refine ST.lift (fun _ _ k => T_goto (tgt := 91) d_Mo_enroll_112 rfl k) ?_
          exact ih42 (32 - (k40 + 1)) (by omega) (k40 + 1)  rfl (by omega)
    exact lp43 _ 0  rfl (by omega)
  · refine ST.lift (fun _ _ k => T_iconst (v := -1) d_Mo_enroll_25 (by decide) k) ?_
    exfalso; omega
set_option maxRecDepth 100000 in
set_option maxHeartbeats 4000000 in
theorem c_Mo_enroll_neg (G : GX) (v : Nat → Int32) (x : Int32) (hx_u : x < 0) (hv : okv v) : CS G mi_Mo_enroll [.ref 373, .int x] v (fun r v' => r = some (.int (-1)) ∧ okv v' ∧ mdf [66, 73] v v' ∧ v' 73 = nI 0) := by
  refine CS.of (by decide) (Nat.le_of_ble_eq_true rfl) ?_
  generalize hQe : (fun (r : Option Value) (v' : Nat → Int32) => r = some (.int (-1)) ∧ okv v' ∧ mdf [66, 73] v v' ∧ v' 73 = nI 0) = Q
  have hQ : ∀ u, okv u → mdf [66, 73] v u → u 73 = nI 0 → Q (some (.int (-1))) u := by rw [← hQe]; exact fun u h1 h2 f0 => ⟨rfl, h1, h2, f0⟩
  clear hQe
  have hm : mdf [66, 73] v v := mdf.rf
  show ST G mi_Mo_enroll 0 [(0, .ref 373), (1, .int x)] [] v 0 0 Q
  refine ST.lift (fun _ _ k => T_aload_n (v := .ref 373) d_Mo_enroll_0 rfl (Or.inr ⟨_, rfl⟩) k) ?_
  refine ST.lift (fun _ _ k => T_iconst (v := nI 0) d_Mo_enroll_1 (by decide) k) ?_
  refine S_putfield (v' := va_up v 66 (nI 0)) d_Mo_enroll_2 (fp_Mo_316 _) (w373 _) (Nat.le_of_ble_eq_true rfl) ⟨rfl, rfl⟩ (u373_0 _ _) ?_
  have hv2 := hv.off (j := 66) (x := (nI 0)) (by decide)
  have hm3 := hm.go (mdf.up (v := v) (j := 66) (x := (nI 0))) (by intro i hi; simp only [List.mem_cons, List.not_mem_nil, or_false] at hi ⊢ <;> omega)
  have e_u1 : (va_up v 66 (nI 0)) 66 = (nI 0) := by simp [va_up]
  generalize va_up v 66 (nI 0) = u1 at hv2 hm3 e_u1 ⊢
  refine ST.lift (fun _ _ k => T_aload_n (v := .ref 373) d_Mo_enroll_5 rfl (Or.inr ⟨_, rfl⟩) k) ?_
  obtain ⟨k4, hk4, ek4⟩ := hv2.get (j := 73) (c := 200) (by decide)
  refine S_getfield d_Mo_enroll_6 fg_Mo_344 (w373 _) rfl ?_
  refine S_topi (y := nI k4) (ek4) ?_
  refine ST.lift (fun _ _ k => T_istore_n (L' := [(2, .int (nI k4)), (0, .ref 373), (1, .int x)]) d_Mo_enroll_9 (by decide) rfl k) ?_
  refine ST.lift (fun _ _ k => T_aload_n (v := .ref 373) d_Mo_enroll_10 rfl (Or.inr ⟨_, rfl⟩) k) ?_
  refine ST.lift (fun _ _ k => T_iconst (v := nI 0) d_Mo_enroll_11 (by decide) k) ?_
  refine S_putfield (v' := va_up u1 73 (nI 0)) d_Mo_enroll_12 (fp_Mo_344 _) (w373 _) (Nat.le_of_ble_eq_true rfl) ⟨rfl, rfl⟩ (u373_43 _ _) ?_
  have hv6 := hv2.up (j := 73) (c := 200) (k := 0) (by decide) (by omega)
  have hm7 := hm3.go (mdf.up (v := u1) (j := 73) (x := (nI 0))) (by intro i hi; simp only [List.mem_cons, List.not_mem_nil, or_false] at hi ⊢ <;> omega)
  have e_u5 : (va_up u1 73 (nI 0)) 73 = (nI 0) := by simp [va_up]
  have e8 : (va_up u1 73 (nI 0)) 66 = nI 0 := by simp only [va_up]; exact e_u1
  generalize va_up u1 73 (nI 0) = u5 at hv6 hm7 e_u5 e8 ⊢
  refine ST.lift (fun _ _ k => T_iload_n d_Mo_enroll_15 rfl k) ?_
  refine S_if_lt d_Mo_enroll_16 rfl (fun _ => ?_) (fun c => by first | exact absurd c (by omega) | exact c.elim | exact absurd c (by decide) | exact absurd (by assumption) c | exact absurd c (by assumption))
  refine ST.lift (fun _ _ k => T_iconst (v := -1) d_Mo_enroll_25 (by decide) k) ?_
  exact S_ret d_Mo_enroll_26 rfl rfl (by decide) (by decide) (hQ _ hv6 hm7 (e_u5.trans (congrArg nI (by omega))))
set_option maxRecDepth 100000 in
set_option maxHeartbeats 4000000 in
theorem c_Mo_enroll_big (G : GX) (v : Nat → Int32) (x : Int32) (h0_u : ¬ x < 0) (hx_u : ¬ x ≤ nI 7) (hv : okv v) : CS G mi_Mo_enroll [.ref 373, .int x] v (fun r v' => r = some (.int (-1)) ∧ okv v' ∧ mdf [66, 73] v v' ∧ v' 73 = nI 0) := by
  refine CS.of (by decide) (Nat.le_of_ble_eq_true rfl) ?_
  generalize hQe : (fun (r : Option Value) (v' : Nat → Int32) => r = some (.int (-1)) ∧ okv v' ∧ mdf [66, 73] v v' ∧ v' 73 = nI 0) = Q
  have hQ : ∀ u, okv u → mdf [66, 73] v u → u 73 = nI 0 → Q (some (.int (-1))) u := by rw [← hQe]; exact fun u h1 h2 f0 => ⟨rfl, h1, h2, f0⟩
  clear hQe
  have hm : mdf [66, 73] v v := mdf.rf
  show ST G mi_Mo_enroll 0 [(0, .ref 373), (1, .int x)] [] v 0 0 Q
  refine ST.lift (fun _ _ k => T_aload_n (v := .ref 373) d_Mo_enroll_0 rfl (Or.inr ⟨_, rfl⟩) k) ?_
  refine ST.lift (fun _ _ k => T_iconst (v := nI 0) d_Mo_enroll_1 (by decide) k) ?_
  refine S_putfield (v' := va_up v 66 (nI 0)) d_Mo_enroll_2 (fp_Mo_316 _) (w373 _) (Nat.le_of_ble_eq_true rfl) ⟨rfl, rfl⟩ (u373_0 _ _) ?_
  have hv2 := hv.off (j := 66) (x := (nI 0)) (by decide)
  have hm3 := hm.go (mdf.up (v := v) (j := 66) (x := (nI 0))) (by intro i hi; simp only [List.mem_cons, List.not_mem_nil, or_false] at hi ⊢ <;> omega)
  have e_u1 : (va_up v 66 (nI 0)) 66 = (nI 0) := by simp [va_up]
  generalize va_up v 66 (nI 0) = u1 at hv2 hm3 e_u1 ⊢
  refine ST.lift (fun _ _ k => T_aload_n (v := .ref 373) d_Mo_enroll_5 rfl (Or.inr ⟨_, rfl⟩) k) ?_
  obtain ⟨k4, hk4, ek4⟩ := hv2.get (j := 73) (c := 200) (by decide)
  refine S_getfield d_Mo_enroll_6 fg_Mo_344 (w373 _) rfl ?_
  refine S_topi (y := nI k4) (ek4) ?_
  refine ST.lift (fun _ _ k => T_istore_n (L' := [(2, .int (nI k4)), (0, .ref 373), (1, .int x)]) d_Mo_enroll_9 (by decide) rfl k) ?_
  refine ST.lift (fun _ _ k => T_aload_n (v := .ref 373) d_Mo_enroll_10 rfl (Or.inr ⟨_, rfl⟩) k) ?_
  refine ST.lift (fun _ _ k => T_iconst (v := nI 0) d_Mo_enroll_11 (by decide) k) ?_
  refine S_putfield (v' := va_up u1 73 (nI 0)) d_Mo_enroll_12 (fp_Mo_344 _) (w373 _) (Nat.le_of_ble_eq_true rfl) ⟨rfl, rfl⟩ (u373_43 _ _) ?_
  have hv6 := hv2.up (j := 73) (c := 200) (k := 0) (by decide) (by omega)
  have hm7 := hm3.go (mdf.up (v := u1) (j := 73) (x := (nI 0))) (by intro i hi; simp only [List.mem_cons, List.not_mem_nil, or_false] at hi ⊢ <;> omega)
  have e_u5 : (va_up u1 73 (nI 0)) 73 = (nI 0) := by simp [va_up]
  have e8 : (va_up u1 73 (nI 0)) 66 = nI 0 := by simp only [va_up]; exact e_u1
  generalize va_up u1 73 (nI 0) = u5 at hv6 hm7 e_u5 e8 ⊢
  refine ST.lift (fun _ _ k => T_iload_n d_Mo_enroll_15 rfl k) ?_
  refine S_if_lt d_Mo_enroll_16 rfl (fun c => by first | exact absurd c (by omega) | exact c.elim | exact absurd c (by decide) | exact absurd (by assumption) c | exact absurd c (by assumption)) (fun _ => ?_)
  refine ST.lift (fun _ _ k => T_iload_n d_Mo_enroll_19 rfl k) ?_
  refine ST.lift (fun _ _ k => T_bipush (v := nI 7) d_Mo_enroll_20 (by decide) k) ?_
  refine S_icmp_le d_Mo_enroll_22 rfl (fun c => by first | exact absurd c (by omega) | exact c.elim | exact absurd c (by decide) | exact absurd (by assumption) c | exact absurd c (by assumption)) (fun _ => ?_)
  refine ST.lift (fun _ _ k => T_iconst (v := -1) d_Mo_enroll_25 (by decide) k) ?_
  exact S_ret d_Mo_enroll_26 rfl rfl (by decide) (by decide) (hQ _ hv6 hm7 (e_u5.trans (congrArg nI (by omega))))
set_option maxRecDepth 100000 in
set_option maxHeartbeats 4000000 in
theorem c_Mo_begin_0 (G : GX) (v : Nat → Int32) (usr : Nat) (b_usr : usr ≤ 7) (e67 : v 67 = nI 0) (hv : okv v) : CS G mi_Mo_begin [.ref 373, .int (nI 0), .int (nI usr)] v (fun r v' => r = some (.int (nI 0)) ∧ okv v' ∧ mdf [66, 67, 73, 70, 68, 69, 72, 75, 88, 92, 96, 100, 104, 108, 112, 116, 120, 124] v v' ∧ v' 67 = nI 0 ∧ v' 73 = nI 0) := by
  refine CS.of (by decide) (Nat.le_of_ble_eq_true rfl) ?_
  generalize hQe : (fun (r : Option Value) (v' : Nat → Int32) => r = some (.int (nI 0)) ∧ okv v' ∧ mdf [66, 67, 73, 70, 68, 69, 72, 75, 88, 92, 96, 100, 104, 108, 112, 116, 120, 124] v v' ∧ v' 67 = nI 0 ∧ v' 73 = nI 0) = Q
  have hQ : ∀ u, okv u → mdf [66, 67, 73, 70, 68, 69, 72, 75, 88, 92, 96, 100, 104, 108, 112, 116, 120, 124] v u → u 67 = nI 0 → u 73 = nI 0 → Q (some (.int (nI 0))) u := by rw [← hQe]; exact fun u h1 h2 f0 f1 => ⟨rfl, h1, h2, f0, f1⟩
  clear hQe
  have hm : mdf [66, 67, 73, 70, 68, 69, 72, 75, 88, 92, 96, 100, 104, 108, 112, 116, 120, 124] v v := mdf.rf
  show ST G mi_Mo_begin 0 [(0, .ref 373), (1, .int (nI 0)), (2, .int (nI usr))] [] v 0 0 Q
  refine ST.lift (fun _ _ k => T_aload_n (v := .ref 373) d_Mo_begin_0 rfl (Or.inr ⟨_, rfl⟩) k) ?_
  refine ST.lift (fun _ _ k => T_iconst (v := nI 0) d_Mo_begin_1 (by decide) k) ?_
  refine S_putfield (v' := va_up v 66 (nI 0)) d_Mo_begin_2 (fp_Mo_316 _) (w373 _) (Nat.le_of_ble_eq_true rfl) ⟨rfl, rfl⟩ (u373_0 _ _) ?_
  have hv2 := hv.off (j := 66) (x := (nI 0)) (by decide)
  have hm3 := hm.go (mdf.up (v := v) (j := 66) (x := (nI 0))) (by intro i hi; simp only [List.mem_cons, List.not_mem_nil, or_false] at hi ⊢ <;> omega)
  have e_u1 : (va_up v 66 (nI 0)) 66 = (nI 0) := by simp [va_up]
  have e4 : (va_up v 66 (nI 0)) 67 = nI 0 := by simp only [va_up]; exact e67
  generalize va_up v 66 (nI 0) = u1 at hv2 hm3 e_u1 e4 ⊢
  refine ST.lift (fun _ _ k => T_aload_n (v := .ref 373) d_Mo_begin_5 rfl (Or.inr ⟨_, rfl⟩) k) ?_
  obtain ⟨k5, hk5, ek5⟩ := hv2.get (j := 73) (c := 200) (by decide)
  refine S_getfield d_Mo_begin_6 fg_Mo_344 (w373 _) rfl ?_
  refine S_topi (y := nI k5) (ek5) ?_
  refine ST.lift (fun _ _ k => T_istore_n (L' := [(3, .int (nI k5)), (0, .ref 373), (1, .int (nI 0)), (2, .int (nI usr))]) d_Mo_begin_9 (by decide) rfl k) ?_
  refine ST.lift (fun _ _ k => T_aload_n (v := .ref 373) d_Mo_begin_10 rfl (Or.inr ⟨_, rfl⟩) k) ?_
  refine ST.lift (fun _ _ k => T_iconst (v := nI 0) d_Mo_begin_11 (by decide) k) ?_
  refine S_putfield (v' := va_up u1 73 (nI 0)) d_Mo_begin_12 (fp_Mo_344 _) (w373 _) (Nat.le_of_ble_eq_true rfl) ⟨rfl, rfl⟩ (u373_43 _ _) ?_
  have hv7 := hv2.up (j := 73) (c := 200) (k := 0) (by decide) (by omega)
  have hm8 := hm3.go (mdf.up (v := u1) (j := 73) (x := (nI 0))) (by intro i hi; simp only [List.mem_cons, List.not_mem_nil, or_false] at hi ⊢ <;> omega)
  have e_u6 : (va_up u1 73 (nI 0)) 73 = (nI 0) := by simp [va_up]
  have e9 : (va_up u1 73 (nI 0)) 67 = nI 0 := by simp only [va_up]; exact e4
  have e10 : (va_up u1 73 (nI 0)) 66 = nI 0 := by simp only [va_up]; exact e_u1
  generalize va_up u1 73 (nI 0) = u6 at hv7 hm8 e_u6 e9 e10 ⊢
  refine ST.lift (fun _ _ k => T_iload_n d_Mo_begin_15 rfl k) ?_
  refine S_static (as := [.int (nI 0)]) (rest := []) d_Mo_begin_16 rfl (jw_Mo_isSession.jo (by decide)) lm_Mo_545 jt_Mo_isSession rfl (Nat.le_of_ble_eq_true rfl) (by decide) (by decide) (c_Mo_isSession G u6 0 (by omega)) (fun r v' hq => ?_)
  rw [hq.1, hq.2]
  clear hq r v'
  show ST G mi_Mo_begin 19 [(3, .int (nI k5)), (0, .ref 373), (1, .int (nI 0)), (2, .int (nI usr))] [.int (nI 1)] u6 0 0 _
  refine S_if_eqN d_Mo_begin_19 rfl (by omega) (fun c => by first | exact absurd c (by omega) | exact c.elim | exact absurd c (by decide) | exact absurd (by assumption) c | exact absurd c (by assumption)) (fun _ => ?_)
  refine ST.lift (fun _ _ k => T_iload_n d_Mo_begin_22 rfl k) ?_
  refine S_if_ltN d_Mo_begin_23 rfl (by omega) (fun c => by first | exact absurd c (by omega) | exact c.elim | exact absurd c (by decide) | exact absurd (by assumption) c | exact absurd c (by assumption)) (fun _ => ?_)
  refine ST.lift (fun _ _ k => T_iload_n d_Mo_begin_26 rfl k) ?_
  refine ST.lift (fun _ _ k => T_bipush (v := nI 7) d_Mo_begin_27 (by decide) k) ?_
  refine S_icmp_leN d_Mo_begin_29 rfl (by omega) (by omega) (fun c11 => ?_) (fun c11 => ?_)
  · refine ST.lift (fun _ _ k => T_aload_n (v := .ref 373) d_Mo_begin_34 rfl (Or.inr ⟨_, rfl⟩) k) ?_
    refine S_getfield d_Mo_begin_35 fg_Mo_377 (w373 _) rfl ?_
    refine ST.lift (fun _ _ k => T_iload_n d_Mo_begin_38 rfl k) ?_
    refine ST.lift (fun _ _ k => T_iload_n d_Mo_begin_39 rfl k) ?_
    refine S_xstore (k := 0) (y := (nI usr)) (v' := va_up u6 88 (nI usr)) (Or.inl ⟨rfl, rfl, d_Mo_begin_40⟩) (by decide) rfl (w419 _) (by decide) (by decide) (x419_0 _ _) ?_
    have hv13 := hv7.up (j := 88) (c := 7) (k := usr) (by decide) (by omega)
    have hm14 := hm8.go (mdf.up (v := u6) (j := 88) (x := (nI usr))) (by intro i hi; simp only [List.mem_cons, List.not_mem_nil, or_false] at hi ⊢ <;> omega)
    have e_u12 : (va_up u6 88 (nI usr)) 88 = (nI usr) := by simp [va_up]
    have e15 : (va_up u6 88 (nI usr)) 67 = nI 0 := by simp only [va_up]; exact e9
    have e16 : (va_up u6 88 (nI usr)) 66 = nI 0 := by simp only [va_up]; exact e10
    have e17 : (va_up u6 88 (nI usr)) 73 = nI 0 := by simp only [va_up]; exact e_u6
    generalize va_up u6 88 (nI usr) = u12 at hv13 hm14 e_u12 e15 e16 e17 ⊢
    refine ST.lift (fun _ _ k => T_aload_n (v := .ref 373) d_Mo_begin_41 rfl (Or.inr ⟨_, rfl⟩) k) ?_
    refine S_getfield d_Mo_begin_42 fg_Mo_383 (w373 _) rfl ?_
    refine ST.lift (fun _ _ k => T_iload_n d_Mo_begin_45 rfl k) ?_
    refine ST.lift (fun _ _ k => T_iload_n d_Mo_begin_46 rfl k) ?_
    refine S_xstore (k := 0) (y := (nI k5)) (v' := va_up u12 92 (nI k5)) (Or.inl ⟨rfl, rfl, d_Mo_begin_47⟩) (by decide) rfl (w421 _) (by decide) (by decide) (x421_0 _ _) ?_
    have hv19 := hv13.up (j := 92) (c := 200) (k := k5) (by decide) (by omega)
    have hm20 := hm14.go (mdf.up (v := u12) (j := 92) (x := (nI k5))) (by intro i hi; simp only [List.mem_cons, List.not_mem_nil, or_false] at hi ⊢ <;> omega)
    have e_u18 : (va_up u12 92 (nI k5)) 92 = (nI k5) := by simp [va_up]
    have e21 : (va_up u12 92 (nI k5)) 67 = nI 0 := by simp only [va_up]; exact e15
    have e22 : (va_up u12 92 (nI k5)) 66 = nI 0 := by simp only [va_up]; exact e16
    have e23 : (va_up u12 92 (nI k5)) 73 = nI 0 := by simp only [va_up]; exact e17
    have e24 : (va_up u12 92 (nI k5)) 88 = nI usr := by simp only [va_up]; exact e_u12
    generalize va_up u12 92 (nI k5) = u18 at hv19 hm20 e_u18 e21 e22 e23 e24 ⊢
    refine ST.lift (fun _ _ k => T_iconst (v := nI 0) d_Mo_begin_48 (by decide) k) ?_
    refine ST.lift (fun _ _ k => T_istore (L' := [(4, .int (nI 0)), (3, .int (nI k5)), (0, .ref 373), (1, .int (nI 0)), (2, .int (nI usr))]) d_Mo_begin_49 (by decide) rfl k) ?_
    have lp28 : ∀ (n26 k25 : Nat), k5 - k25 = n26 → 0 ≤ k25 ∧ k25 ≤ 0 + k5 → ST G mi_Mo_begin 51 [(4, .int (nI k25)), (3, .int (nI k5)), (0, .ref 373), (1, .int (nI 0)), (2, .int (nI usr))] [] u18 0 0 Q := by
      intro n26
      induction n26 using Nat.strongRecOn with
      | _ n26 ih27 =>
        intro k25 h29 h30
        refine ST.lift (fun _ _ k => T_iload d_Mo_begin_51 rfl k) ?_
        refine ST.lift (fun _ _ k => T_iload_n d_Mo_begin_53 rfl k) ?_
        refine S_icmp_geN d_Mo_begin_54 rfl (by omega) (by omega) (fun c31 => ?_) (fun c31 => ?_)
        · refine ST.lift (fun _ _ k => T_aload_n (v := .ref 373) d_Mo_begin_83 rfl (Or.inr ⟨_, rfl⟩) k) ?_
          refine S_getfield d_Mo_begin_84 fg_Mo_395 (w373 _) rfl ?_
          refine ST.lift (fun _ _ k => T_iload_n d_Mo_begin_87 rfl k) ?_
          refine ST.lift (fun _ _ k => T_iconst (v := nI 0) d_Mo_begin_88 (by decide) k) ?_
          refine S_xstore (k := 0) (y := (nI 0)) (v' := va_up u18 100 (nI 0)) (Or.inr ⟨rfl, by decide, d_Mo_begin_89⟩) (by decide) rfl (w425 _) (by decide) (by decide) (x425_0 _ _) ?_
          have hv34 := hv19.off (j := 100) (x := (nI 0)) (by decide)
          have hm35 := hm20.go (mdf.up (v := u18) (j := 100) (x := (nI 0))) (by intro i hi; simp only [List.mem_cons, List.not_mem_nil, or_false] at hi ⊢ <;> omega)
          have e_u33 : (va_up u18 100 (nI 0)) 100 = (nI 0) := by simp [va_up]
          have e36 : (va_up u18 100 (nI 0)) 67 = nI 0 := by simp only [va_up]; exact e21
          have e37 : (va_up u18 100 (nI 0)) 66 = nI 0 := by simp only [va_up]; exact e22
          have e38 : (va_up u18 100 (nI 0)) 73 = nI 0 := by simp only [va_up]; exact e23
          have e39 : (va_up u18 100 (nI 0)) 88 = nI usr := by simp only [va_up]; exact e24
          have e40 : (va_up u18 100 (nI 0)) 92 = nI k5 := by simp only [va_up]; exact e_u18
          generalize va_up u18 100 (nI 0) = u33 at hv34 hm35 e_u33 e36 e37 e38 e39 e40 ⊢
          refine ST.lift (fun _ _ k => T_aload_n (v := .ref 373) d_Mo_begin_90 rfl (Or.inr ⟨_, rfl⟩) k) ?_
          refine S_getfield d_Mo_begin_91 fg_Mo_398 (w373 _) rfl ?_
          refine ST.lift (fun _ _ k => T_iload_n d_Mo_begin_94 rfl k) ?_
          refine ST.lift (fun _ _ k => T_iconst (v := nI 0) d_Mo_begin_95 (by decide) k) ?_
          refine S_xstore (k := 0) (y := (nI 0)) (v' := va_up u33 104 (nI 0)) (Or.inr ⟨rfl, by decide, d_Mo_begin_96⟩) (by decide) rfl (w426 _) (by decide) (by decide) (x426_0 _ _) ?_
          have hv42 := hv34.off (j := 104) (x := (nI 0)) (by decide)
          have hm43 := hm35.go (mdf.up (v := u33) (j := 104) (x := (nI 0))) (by intro i hi; simp only [List.mem_cons, List.not_mem_nil, or_false] at hi ⊢ <;> omega)
          have e_u41 : (va_up u33 104 (nI 0)) 104 = (nI 0) := by simp [va_up]
          have e44 : (va_up u33 104 (nI 0)) 67 = nI 0 := by simp only [va_up]; exact e36
          have e45 : (va_up u33 104 (nI 0)) 66 = nI 0 := by simp only [va_up]; exact e37
          have e46 : (va_up u33 104 (nI 0)) 73 = nI 0 := by simp only [va_up]; exact e38
          have e47 : (va_up u33 104 (nI 0)) 88 = nI usr := by simp only [va_up]; exact e39
          have e48 : (va_up u33 104 (nI 0)) 92 = nI k5 := by simp only [va_up]; exact e40
          have e49 : (va_up u33 104 (nI 0)) 100 = nI 0 := by simp only [va_up]; exact e_u33
          generalize va_up u33 104 (nI 0) = u41 at hv42 hm43 e_u41 e44 e45 e46 e47 e48 e49 ⊢
          refine ST.lift (fun _ _ k => T_aload_n (v := .ref 373) d_Mo_begin_97 rfl (Or.inr ⟨_, rfl⟩) k) ?_
          refine S_getfield d_Mo_begin_98 fg_Mo_401 (w373 _) rfl ?_
          refine ST.lift (fun _ _ k => T_iload_n d_Mo_begin_101 rfl k) ?_
          refine ST.lift (fun _ _ k => T_iconst (v := nI 0) d_Mo_begin_102 (by decide) k) ?_
          refine S_xstore (k := 0) (y := (nI 0)) (v' := va_up u41 108 (nI 0)) (Or.inr ⟨rfl, by decide, d_Mo_begin_103⟩) (by decide) rfl (w427 _) (by decide) (by decide) (x427_0 _ _) ?_
          have hv51 := hv42.off (j := 108) (x := (nI 0)) (by decide)
          have hm52 := hm43.go (mdf.up (v := u41) (j := 108) (x := (nI 0))) (by intro i hi; simp only [List.mem_cons, List.not_mem_nil, or_false] at hi ⊢ <;> omega)
          have e_u50 : (va_up u41 108 (nI 0)) 108 = (nI 0) := by simp [va_up]
          have e53 : (va_up u41 108 (nI 0)) 67 = nI 0 := by simp only [va_up]; exact e44
          have e54 : (va_up u41 108 (nI 0)) 66 = nI 0 := by simp only [va_up]; exact e45
          have e55 : (va_up u41 108 (nI 0)) 73 = nI 0 := by simp only [va_up]; exact e46
          have e56 : (va_up u41 108 (nI 0)) 88 = nI usr := by simp only [va_up]; exact e47
          have e57 : (va_up u41 108 (nI 0)) 92 = nI k5 := by simp only [va_up]; exact e48
          have e58 : (va_up u41 108 (nI 0)) 100 = nI 0 := by simp only [va_up]; exact e49
          have e59 : (va_up u41 108 (nI 0)) 104 = nI 0 := by simp only [va_up]; exact e_u41
          generalize va_up u41 108 (nI 0) = u50 at hv51 hm52 e_u50 e53 e54 e55 e56 e57 e58 e59 ⊢
          refine ST.lift (fun _ _ k => T_aload_n (v := .ref 373) d_Mo_begin_104 rfl (Or.inr ⟨_, rfl⟩) k) ?_
          refine S_getfield d_Mo_begin_105 fg_Mo_404 (w373 _) rfl ?_
          refine ST.lift (fun _ _ k => T_iload_n d_Mo_begin_108 rfl k) ?_
          refine ST.lift (fun _ _ k => T_iconst (v := nI 0) d_Mo_begin_109 (by decide) k) ?_
          refine S_xstore (k := 0) (y := (nI 0)) (v' := va_up u50 112 (nI 0)) (Or.inr ⟨rfl, by decide, d_Mo_begin_110⟩) (by decide) rfl (w428 _) (by decide) (by decide) (x428_0 _ _) ?_
          have hv61 := hv51.off (j := 112) (x := (nI 0)) (by decide)
          have hm62 := hm52.go (mdf.up (v := u50) (j := 112) (x := (nI 0))) (by intro i hi; simp only [List.mem_cons, List.not_mem_nil, or_false] at hi ⊢ <;> omega)
          have e_u60 : (va_up u50 112 (nI 0)) 112 = (nI 0) := by simp [va_up]
          have e63 : (va_up u50 112 (nI 0)) 67 = nI 0 := by simp only [va_up]; exact e53
          have e64 : (va_up u50 112 (nI 0)) 66 = nI 0 := by simp only [va_up]; exact e54
          have e65 : (va_up u50 112 (nI 0)) 73 = nI 0 := by simp only [va_up]; exact e55
          have e66 : (va_up u50 112 (nI 0)) 88 = nI usr := by simp only [va_up]; exact e56
          have e67 : (va_up u50 112 (nI 0)) 92 = nI k5 := by simp only [va_up]; exact e57
          have e68 : (va_up u50 112 (nI 0)) 100 = nI 0 := by simp only [va_up]; exact e58
          have e69 : (va_up u50 112 (nI 0)) 104 = nI 0 := by simp only [va_up]; exact e59
          have e70 : (va_up u50 112 (nI 0)) 108 = nI 0 := by simp only [va_up]; exact e_u50
          generalize va_up u50 112 (nI 0) = u60 at hv61 hm62 e_u60 e63 e64 e65 e66 e67 e68 e69 e70 ⊢
          refine ST.lift (fun _ _ k => T_aload_n (v := .ref 373) d_Mo_begin_111 rfl (Or.inr ⟨_, rfl⟩) k) ?_
          refine S_getfield d_Mo_begin_112 fg_Mo_407 (w373 _) rfl ?_
          refine ST.lift (fun _ _ k => T_iload_n d_Mo_begin_115 rfl k) ?_
          refine ST.lift (fun _ _ k => T_iconst (v := nI 0) d_Mo_begin_116 (by decide) k) ?_
          refine S_xstore (k := 0) (y := (nI 0)) (v' := va_up u60 116 (nI 0)) (Or.inr ⟨rfl, by decide, d_Mo_begin_117⟩) (by decide) rfl (w429 _) (by decide) (by decide) (x429_0 _ _) ?_
          have hv72 := hv61.off (j := 116) (x := (nI 0)) (by decide)
          have hm73 := hm62.go (mdf.up (v := u60) (j := 116) (x := (nI 0))) (by intro i hi; simp only [List.mem_cons, List.not_mem_nil, or_false] at hi ⊢ <;> omega)
          have e_u71 : (va_up u60 116 (nI 0)) 116 = (nI 0) := by simp [va_up]
          have e74 : (va_up u60 116 (nI 0)) 67 = nI 0 := by simp only [va_up]; exact e63
          have e75 : (va_up u60 116 (nI 0)) 66 = nI 0 := by simp only [va_up]; exact e64
          have e76 : (va_up u60 116 (nI 0)) 73 = nI 0 := by simp only [va_up]; exact e65
          have e77 : (va_up u60 116 (nI 0)) 88 = nI usr := by simp only [va_up]; exact e66
          have e78 : (va_up u60 116 (nI 0)) 92 = nI k5 := by simp only [va_up]; exact e67
          have e79 : (va_up u60 116 (nI 0)) 100 = nI 0 := by simp only [va_up]; exact e68
          have e80 : (va_up u60 116 (nI 0)) 104 = nI 0 := by simp only [va_up]; exact e69
          have e81 : (va_up u60 116 (nI 0)) 108 = nI 0 := by simp only [va_up]; exact e70
          have e82 : (va_up u60 116 (nI 0)) 112 = nI 0 := by simp only [va_up]; exact e_u60
          generalize va_up u60 116 (nI 0) = u71 at hv72 hm73 e_u71 e74 e75 e76 e77 e78 e79 e80 e81 e82 ⊢
          refine ST.lift (fun _ _ k => T_aload_n (v := .ref 373) d_Mo_begin_118 rfl (Or.inr ⟨_, rfl⟩) k) ?_
          refine S_getfield d_Mo_begin_119 fg_Mo_410 (w373 _) rfl ?_
          refine ST.lift (fun _ _ k => T_iload_n d_Mo_begin_122 rfl k) ?_
          refine ST.lift (fun _ _ k => T_iconst (v := nI 0) d_Mo_begin_123 (by decide) k) ?_
          refine S_xstore (k := 0) (y := (nI 0)) (v' := va_up u71 120 (nI 0)) (Or.inr ⟨rfl, by decide, d_Mo_begin_124⟩) (by decide) rfl (w430 _) (by decide) (by decide) (x430_0 _ _) ?_
          have hv84 := hv72.off (j := 120) (x := (nI 0)) (by decide)
          have hm85 := hm73.go (mdf.up (v := u71) (j := 120) (x := (nI 0))) (by intro i hi; simp only [List.mem_cons, List.not_mem_nil, or_false] at hi ⊢ <;> omega)
          have e_u83 : (va_up u71 120 (nI 0)) 120 = (nI 0) := by simp [va_up]
          have e86 : (va_up u71 120 (nI 0)) 67 = nI 0 := by simp only [va_up]; exact e74
          have e87 : (va_up u71 120 (nI 0)) 66 = nI 0 := by simp only [va_up]; exact e75
          have e88 : (va_up u71 120 (nI 0)) 73 = nI 0 := by simp only [va_up]; exact e76
          have e89 : (va_up u71 120 (nI 0)) 88 = nI usr := by simp only [va_up]; exact e77
          have e90 : (va_up u71 120 (nI 0)) 92 = nI k5 := by simp only [va_up]; exact e78
          have e91 : (va_up u71 120 (nI 0)) 100 = nI 0 := by simp only [va_up]; exact e79
          have e92 : (va_up u71 120 (nI 0)) 104 = nI 0 := by simp only [va_up]; exact e80
          have e93 : (va_up u71 120 (nI 0)) 108 = nI 0 := by simp only [va_up]; exact e81
          have e94 : (va_up u71 120 (nI 0)) 112 = nI 0 := by simp only [va_up]; exact e82
          have e95 : (va_up u71 120 (nI 0)) 116 = nI 0 := by simp only [va_up]; exact e_u71
          generalize va_up u71 120 (nI 0) = u83 at hv84 hm85 e_u83 e86 e87 e88 e89 e90 e91 e92 e93 e94 e95 ⊢
          refine ST.lift (fun _ _ k => T_aload_n (v := .ref 373) d_Mo_begin_125 rfl (Or.inr ⟨_, rfl⟩) k) ?_
          refine S_getfield d_Mo_begin_126 fg_Mo_413 (w373 _) rfl ?_
          refine ST.lift (fun _ _ k => T_iload_n d_Mo_begin_129 rfl k) ?_
          refine ST.lift (fun _ _ k => T_iconst (v := nI 0) d_Mo_begin_130 (by decide) k) ?_
          refine S_xstore (k := 0) (y := (nI 0)) (v' := va_up u83 124 (nI 0)) (Or.inr ⟨rfl, by decide, d_Mo_begin_131⟩) (by decide) rfl (w431 _) (by decide) (by decide) (x431_0 _ _) ?_
          have hv97 := hv84.off (j := 124) (x := (nI 0)) (by decide)
          have hm98 := hm85.go (mdf.up (v := u83) (j := 124) (x := (nI 0))) (by intro i hi; simp only [List.mem_cons, List.not_mem_nil, or_false] at hi ⊢ <;> omega)
          have e_u96 : (va_up u83 124 (nI 0)) 124 = (nI 0) := by simp [va_up]
          have e99 : (va_up u83 124 (nI 0)) 67 = nI 0 := by simp only [va_up]; exact e86
          have e100 : (va_up u83 124 (nI 0)) 66 = nI 0 := by simp only [va_up]; exact e87
          have e101 : (va_up u83 124 (nI 0)) 73 = nI 0 := by simp only [va_up]; exact e88
          have e102 : (va_up u83 124 (nI 0)) 88 = nI usr := by simp only [va_up]; exact e89
          have e103 : (va_up u83 124 (nI 0)) 92 = nI k5 := by simp only [va_up]; exact e90
          have e104 : (va_up u83 124 (nI 0)) 100 = nI 0 := by simp only [va_up]; exact e91
          have e105 : (va_up u83 124 (nI 0)) 104 = nI 0 := by simp only [va_up]; exact e92
          have e106 : (va_up u83 124 (nI 0)) 108 = nI 0 := by simp only [va_up]; exact e93
          have e107 : (va_up u83 124 (nI 0)) 112 = nI 0 := by simp only [va_up]; exact e94
          have e108 : (va_up u83 124 (nI 0)) 116 = nI 0 := by simp only [va_up]; exact e95
          have e109 : (va_up u83 124 (nI 0)) 120 = nI 0 := by simp only [va_up]; exact e_u83
          generalize va_up u83 124 (nI 0) = u96 at hv97 hm98 e_u96 e99 e100 e101 e102 e103 e104 e105 e106 e107 e108 e109 ⊢
          refine ST.lift (fun _ _ k => T_aload_n (v := .ref 373) d_Mo_begin_132 rfl (Or.inr ⟨_, rfl⟩) k) ?_
          refine S_getfield d_Mo_begin_133 fg_Mo_392 (w373 _) rfl ?_
          refine ST.lift (fun _ _ k => T_iload_n d_Mo_begin_136 rfl k) ?_
          refine ST.lift (fun _ _ k => T_iconst (v := nI 1) d_Mo_begin_137 (by decide) k) ?_
          refine S_xstore (k := 0) (y := (nI 1)) (v' := va_up u96 96 (nI 1)) (Or.inr ⟨rfl, by decide, d_Mo_begin_138⟩) (by decide) rfl (w424 _) (by decide) (by decide) (x424_0 _ _) ?_
          have hv111 := hv97.off (j := 96) (x := (nI 1)) (by decide)
          have hm112 := hm98.go (mdf.up (v := u96) (j := 96) (x := (nI 1))) (by intro i hi; simp only [List.mem_cons, List.not_mem_nil, or_false] at hi ⊢ <;> omega)
          have e_u110 : (va_up u96 96 (nI 1)) 96 = (nI 1) := by simp [va_up]
          have e113 : (va_up u96 96 (nI 1)) 67 = nI 0 := by simp only [va_up]; exact e99
          have e114 : (va_up u96 96 (nI 1)) 66 = nI 0 := by simp only [va_up]; exact e100
          have e115 : (va_up u96 96 (nI 1)) 73 = nI 0 := by simp only [va_up]; exact e101
          have e116 : (va_up u96 96 (nI 1)) 88 = nI usr := by simp only [va_up]; exact e102
          have e117 : (va_up u96 96 (nI 1)) 92 = nI k5 := by simp only [va_up]; exact e103
          have e118 : (va_up u96 96 (nI 1)) 100 = nI 0 := by simp only [va_up]; exact e104
          have e119 : (va_up u96 96 (nI 1)) 104 = nI 0 := by simp only [va_up]; exact e105
          have e120 : (va_up u96 96 (nI 1)) 108 = nI 0 := by simp only [va_up]; exact e106
          have e121 : (va_up u96 96 (nI 1)) 112 = nI 0 := by simp only [va_up]; exact e107
          have e122 : (va_up u96 96 (nI 1)) 116 = nI 0 := by simp only [va_up]; exact e108
          have e123 : (va_up u96 96 (nI 1)) 120 = nI 0 := by simp only [va_up]; exact e109
          have e124 : (va_up u96 96 (nI 1)) 124 = nI 0 := by simp only [va_up]; exact e_u96
          generalize va_up u96 96 (nI 1) = u110 at hv111 hm112 e_u110 e113 e114 e115 e116 e117 e118 e119 e120 e121 e122 e123 e124 ⊢
          refine ST.lift (fun _ _ k => T_aload_n (v := .ref 373) d_Mo_begin_139 rfl (Or.inr ⟨_, rfl⟩) k) ?_
          refine S_virtual (as := []) (rest := []) (b := 373) d_Mo_begin_140 rfl (jw_Mo_chanceScalar.jo (by decide)) lm_Mo_548 ji_Mo_chanceScalar js_Mo_chanceScalar (w373 _) rfl rfl rfl (Nat.le_of_ble_eq_true rfl) (by decide) (by decide) (c_Mo_chanceScalar G u110 0 e113 (by omega) hv111) (fun r u125 hq => ?_)
          obtain ⟨hr, hv126, hm127, es_u125⟩ := hq
          rw [hr]
          clear hr r
          have hm129 := hm112.go hm127 (by intro i hi; simp only [List.mem_cons, List.not_mem_nil, or_false] at hi ⊢ <;> omega)
          have e130 : u125 66 = nI 0 := (hm127 66 (by decide)).trans e114
          have e131 : u125 73 = nI 0 := (hm127 73 (by decide)).trans e115
          have e132 : u125 88 = nI usr := (hm127 88 (by decide)).trans e116
          have e133 : u125 92 = nI k5 := (hm127 92 (by decide)).trans e117
          have e134 : u125 100 = nI 0 := (hm127 100 (by decide)).trans e118
          have e135 : u125 104 = nI 0 := (hm127 104 (by decide)).trans e119
          have e136 : u125 108 = nI 0 := (hm127 108 (by decide)).trans e120
          have e137 : u125 112 = nI 0 := (hm127 112 (by decide)).trans e121
          have e138 : u125 116 = nI 0 := (hm127 116 (by decide)).trans e122
          have e139 : u125 120 = nI 0 := (hm127 120 (by decide)).trans e123
          have e140 : u125 124 = nI 0 := (hm127 124 (by decide)).trans e124
          have e141 : u125 96 = nI 1 := (hm127 96 (by decide)).trans e_u110
          show ST G mi_Mo_begin 143 [(4, .int (nI k25)), (3, .int (nI k5)), (0, .ref 373), (1, .int (nI 0)), (2, .int (nI usr))] [] u125 0 0 _
          refine ST.lift (fun _ _ k => T_aload_n (v := .ref 373) d_Mo_begin_143 rfl (Or.inr ⟨_, rfl⟩) k) ?_
          refine ST.lift (fun _ _ k => T_aload_n (v := .ref 373) d_Mo_begin_144 rfl (Or.inr ⟨_, rfl⟩) k) ?_
          refine S_getfield d_Mo_begin_145 fg_Mo_386 (w373 _) rfl ?_
          refine ST.lift (fun _ _ k => T_bipush (v := nI 16) d_Mo_begin_148 (by decide) k) ?_
          refine ST.lift (fun _ _ k => T_iload_n d_Mo_begin_150 rfl k) ?_
          refine S_imulN d_Mo_begin_151 ?_
          refine S_topi (y := nI 0) (by decide) ?_
          refine S_virtual (as := [.ref 422, .int (nI 0)]) (rest := []) (b := 373) d_Mo_begin_152 rfl (jw_Mo_putScalar.jo (by decide)) lm_Mo_489 ji_Mo_putScalar js_Mo_putScalar (w373 _) rfl rfl rfl (Nat.le_of_ble_eq_true rfl) (by decide) (by decide) (c_Mo_putScalar G u125 422 64 (by decide) a422 (by omega) 0 (by omega)) (fun r v' hq => ?_)
          rw [hq.1, hq.2]
          clear hq r v'
          show ST G mi_Mo_begin 155 [(4, .int (nI k25)), (3, .int (nI k5)), (0, .ref 373), (1, .int (nI 0)), (2, .int (nI usr))] [] u125 0 0 _
          refine ST.lift (fun _ _ k => T_aload_n (v := .ref 373) d_Mo_begin_155 rfl (Or.inr ⟨_, rfl⟩) k) ?_
          refine ST.lift (fun _ _ k => T_bipush (v := nI 12) d_Mo_begin_156 (by decide) k) ?_
          refine ST.lift (fun _ _ k => T_aload_n (v := .ref 373) d_Mo_begin_158 rfl (Or.inr ⟨_, rfl⟩) k) ?_
          refine S_getfield d_Mo_begin_159 fg_Mo_341 (w373 _) rfl ?_
          refine ST.lift (fun _ _ k => T_iload_n d_Mo_begin_162 rfl k) ?_
          refine S_virtual (as := [.int (nI 12), .ref 409, .int (nI k5)]) (rest := []) (b := 373) d_Mo_begin_163 rfl (jw_Mo_groupPoint.jo (by decide)) lm_Mo_495 ji_Mo_groupPoint js_Mo_groupPoint (w373 _) rfl rfl rfl (Nat.le_of_ble_eq_true rfl) (by decide) (by decide) (c_Mo_groupPoint G u125 12 (by omega) 409 200 (by decide) a409 (by omega) k5 (by omega) 0 es_u125 (by omega) hv126) (fun r u142 hq => ?_)
          obtain ⟨hr, hv143, hm144, es_u142⟩ := hq
          rw [hr]
          clear hr r
          have hm146 := hm129.go hm144 (by intro i hi; simp only [List.mem_cons, List.not_mem_nil, or_false] at hi ⊢ <;> omega)
          have e147 : u142 66 = nI 0 := (hm144 66 (by decide)).trans e130
          have e148 : u142 73 = nI 0 := (hm144 73 (by decide)).trans e131
          have e149 : u142 88 = nI usr := (hm144 88 (by decide)).trans e132
          have e150 : u142 92 = nI k5 := (hm144 92 (by decide)).trans e133
          have e151 : u142 100 = nI 0 := (hm144 100 (by decide)).trans e134
          have e152 : u142 104 = nI 0 := (hm144 104 (by decide)).trans e135
          have e153 : u142 108 = nI 0 := (hm144 108 (by decide)).trans e136
          have e154 : u142 112 = nI 0 := (hm144 112 (by decide)).trans e137
          have e155 : u142 116 = nI 0 := (hm144 116 (by decide)).trans e138
          have e156 : u142 120 = nI 0 := (hm144 120 (by decide)).trans e139
          have e157 : u142 124 = nI 0 := (hm144 124 (by decide)).trans e140
          have e158 : u142 96 = nI 1 := (hm144 96 (by decide)).trans e141
          show ST G mi_Mo_begin 166 [(4, .int (nI k25)), (3, .int (nI k5)), (0, .ref 373), (1, .int (nI 0)), (2, .int (nI usr))] [] u142 0 0 _
          refine ST.lift (fun _ _ k => T_aload_n (v := .ref 373) d_Mo_begin_166 rfl (Or.inr ⟨_, rfl⟩) k) ?_
          refine ST.lift (fun _ _ k => T_aload_n (v := .ref 373) d_Mo_begin_167 rfl (Or.inr ⟨_, rfl⟩) k) ?_
          refine S_getfield d_Mo_begin_168 fg_Mo_386 (w373 _) rfl ?_
          refine ST.lift (fun _ _ k => T_bipush (v := nI 16) d_Mo_begin_171 (by decide) k) ?_
          refine ST.lift (fun _ _ k => T_iload_n d_Mo_begin_173 rfl k) ?_
          refine S_imulN d_Mo_begin_174 ?_
          refine S_topi (y := nI 0) (by decide) ?_
          refine S_virtual (as := [.ref 422, .int (nI 0)]) (rest := []) (b := 373) d_Mo_begin_175 rfl (jw_Mo_takeScalar.jo (by decide)) lm_Mo_533 ji_Mo_takeScalar js_Mo_takeScalar (w373 _) rfl rfl rfl (Nat.le_of_ble_eq_true rfl) (by decide) (by decide) (c_Mo_takeScalar G u142 422 64 (by decide) a422 (by omega) 0 (by omega)) (fun r v' hq => ?_)
          rw [hq.1, hq.2]
          clear hq r v'
          show ST G mi_Mo_begin 178 [(4, .int (nI k25)), (3, .int (nI k5)), (0, .ref 373), (1, .int (nI 0)), (2, .int (nI usr))] [] u142 0 0 _
          refine ST.lift (fun _ _ k => T_aload_n (v := .ref 373) d_Mo_begin_178 rfl (Or.inr ⟨_, rfl⟩) k) ?_
          refine ST.lift (fun _ _ k => T_bipush (v := nI 12) d_Mo_begin_179 (by decide) k) ?_
          refine ST.lift (fun _ _ k => T_bipush (v := nI 12) d_Mo_begin_181 (by decide) k) ?_
          refine S_virtual (as := [.int (nI 12), .int (nI 12)]) (rest := []) (b := 373) d_Mo_begin_183 rfl (jw_Mo_timesPoint.jo (by decide)) lm_Mo_290 ji_Mo_timesPoint js_Mo_timesPoint (w373 _) rfl rfl rfl (Nat.le_of_ble_eq_true rfl) (by decide) (by decide) (c_Mo_timesPoint G u142 12 (by omega) 12 (by omega)) (fun r v' hq => ?_)
          rw [hq.1, hq.2]
          clear hq r v'
          show ST G mi_Mo_begin 186 [(4, .int (nI k25)), (3, .int (nI k5)), (0, .ref 373), (1, .int (nI 0)), (2, .int (nI usr))] [] u142 0 0 _
          refine ST.lift (fun _ _ k => T_aload_n (v := .ref 373) d_Mo_begin_186 rfl (Or.inr ⟨_, rfl⟩) k) ?_
          refine ST.lift (fun _ _ k => T_bipush (v := nI 12) d_Mo_begin_187 (by decide) k) ?_
          refine S_virtual (as := [.int (nI 12)]) (rest := []) (b := 373) d_Mo_begin_189 rfl (jw_Mo_code.jo (by decide)) lm_Mo_293 ji_Mo_code js_Mo_code (w373 _) rfl rfl rfl (Nat.le_of_ble_eq_true rfl) (by decide) (by decide) (c_Mo_code G u142 12 (by omega)) (fun r v' hq => ?_)
          rw [hq.1, hq.2]
          clear hq r v'
          show ST G mi_Mo_begin 192 [(4, .int (nI k25)), (3, .int (nI k5)), (0, .ref 373), (1, .int (nI 0)), (2, .int (nI usr))] [] u142 0 0 _
          refine ST.lift (fun _ _ k => T_iconst (v := nI 0) d_Mo_begin_192 (by decide) k) ?_
          refine ST.lift (fun _ _ k => T_istore (L' := [(4, .int (nI 0)), (3, .int (nI k5)), (0, .ref 373), (1, .int (nI 0)), (2, .int (nI usr))]) d_Mo_begin_193 (by decide) rfl k) ?_
          have lp162 : ∀ (n160 k159 : Nat), 32 - k159 = n160 → 0 ≤ k159 ∧ k159 ≤ 0 + 32 → ST G mi_Mo_begin 195 [(4, .int (nI k159)), (3, .int (nI k5)), (0, .ref 373), (1, .int (nI 0)), (2, .int (nI usr))] [] u142 0 0 Q := by
            intro n160
            induction n160 using Nat.strongRecOn with
            | _ n160 ih161 =>
              intro k159 h163 h164
              refine ST.lift (fun _ _ k => T_iload d_Mo_begin_195 rfl k) ?_
              refine ST.lift (fun _ _ k => T_bipush (v := nI 32) d_Mo_begin_197 (by decide) k) ?_
              refine S_icmp_geN d_Mo_begin_199 rfl (by omega) (by omega) (fun c165 => ?_) (fun c165 => ?_)
              · refine ST.lift (fun _ _ k => T_aload_n (v := .ref 373) d_Mo_begin_227 rfl (Or.inr ⟨_, rfl⟩) k) ?_
                refine S_virtual (as := []) (rest := []) (b := 373) d_Mo_begin_228 rfl (jw_Mo_chance.jo (by decide)) lm_Mo_304 ji_Mo_chance js_Mo_chance (w373 _) rfl rfl rfl (Nat.le_of_ble_eq_true rfl) (by decide) (by decide) (c_Mo_chance G u142 0 es_u142 (by omega) hv143) (fun r u167 hq => ?_)
                obtain ⟨hr, hv168, hm169, es_u167⟩ := hq
                rw [hr]
                clear hr r
                have hm171 := hm146.go hm169 (by intro i hi; simp only [List.mem_cons, List.not_mem_nil, or_false] at hi ⊢ <;> omega)
                have e172 : u167 66 = nI 0 := (hm169 66 (by decide)).trans e147
                have e173 : u167 73 = nI 0 := (hm169 73 (by decide)).trans e148
                have e174 : u167 88 = nI usr := (hm169 88 (by decide)).trans e149
                have e175 : u167 92 = nI k5 := (hm169 92 (by decide)).trans e150
                have e176 : u167 100 = nI 0 := (hm169 100 (by decide)).trans e151
                have e177 : u167 104 = nI 0 := (hm169 104 (by decide)).trans e152
                have e178 : u167 108 = nI 0 := (hm169 108 (by decide)).trans e153
                have e179 : u167 112 = nI 0 := (hm169 112 (by decide)).trans e154
                have e180 : u167 116 = nI 0 := (hm169 116 (by decide)).trans e155
                have e181 : u167 120 = nI 0 := (hm169 120 (by decide)).trans e156
                have e182 : u167 124 = nI 0 := (hm169 124 (by decide)).trans e157
                have e183 : u167 96 = nI 1 := (hm169 96 (by decide)).trans e158
                show ST G mi_Mo_begin 231 [(4, .int (nI k159)), (3, .int (nI k5)), (0, .ref 373), (1, .int (nI 0)), (2, .int (nI usr))] [] u167 0 0 _
                refine ST.lift (fun _ _ k => T_iconst (v := nI 0) d_Mo_begin_231 (by decide) k) ?_
                refine ST.lift (fun _ _ k => T_istore (L' := [(4, .int (nI 0)), (3, .int (nI k5)), (0, .ref 373), (1, .int (nI 0)), (2, .int (nI usr))]) d_Mo_begin_232 (by decide) rfl k) ?_
                have lp187 : ∀ (n185 k184 : Nat), 32 - k184 = n185 → 0 ≤ k184 ∧ k184 ≤ 0 + 32 → ST G mi_Mo_begin 234 [(4, .int (nI k184)), (3, .int (nI k5)), (0, .ref 373), (1, .int (nI 0)), (2, .int (nI usr))] [] u167 0 0 Q := by
                  intro n185
                  induction n185 using Nat.strongRecOn with
                  | _ n185 ih186 =>
                    intro k184 h188 h189
                    refine ST.lift (fun _ _ k => T_iload d_Mo_begin_234 rfl k) ?_
                    refine ST.lift (fun _ _ k => T_bipush (v := nI 32) d_Mo_begin_236 (by decide) k) ?_
                    refine S_icmp_geN d_Mo_begin_238 rfl (by omega) (by omega) (fun c190 => ?_) (fun c190 => ?_)
                    · refine ST.lift (fun _ _ k => T_aload_n (v := .ref 373) d_Mo_begin_269 rfl (Or.inr ⟨_, rfl⟩) k) ?_
                      refine S_virtual (as := []) (rest := []) (b := 373) d_Mo_begin_270 rfl (jw_Mo_chanceScalar.jo (by decide)) lm_Mo_548 ji_Mo_chanceScalar js_Mo_chanceScalar (w373 _) rfl rfl rfl (Nat.le_of_ble_eq_true rfl) (by decide) (by decide) (c_Mo_chanceScalar G u167 0 es_u167 (by omega) hv168) (fun r u192 hq => ?_)
                      obtain ⟨hr, hv193, hm194, es_u192⟩ := hq
                      rw [hr]
                      clear hr r
                      have hm196 := hm171.go hm194 (by intro i hi; simp only [List.mem_cons, List.not_mem_nil, or_false] at hi ⊢ <;> omega)
                      have e197 : u192 66 = nI 0 := (hm194 66 (by decide)).trans e172
                      have e198 : u192 73 = nI 0 := (hm194 73 (by decide)).trans e173
                      have e199 : u192 88 = nI usr := (hm194 88 (by decide)).trans e174
                      have e200 : u192 92 = nI k5 := (hm194 92 (by decide)).trans e175
                      have e201 : u192 100 = nI 0 := (hm194 100 (by decide)).trans e176
                      have e202 : u192 104 = nI 0 := (hm194 104 (by decide)).trans e177
                      have e203 : u192 108 = nI 0 := (hm194 108 (by decide)).trans e178
                      have e204 : u192 112 = nI 0 := (hm194 112 (by decide)).trans e179
                      have e205 : u192 116 = nI 0 := (hm194 116 (by decide)).trans e180
                      have e206 : u192 120 = nI 0 := (hm194 120 (by decide)).trans e181
                      have e207 : u192 124 = nI 0 := (hm194 124 (by decide)).trans e182
                      have e208 : u192 96 = nI 1 := (hm194 96 (by decide)).trans e183
                      show ST G mi_Mo_begin 273 [(4, .int (nI k184)), (3, .int (nI k5)), (0, .ref 373), (1, .int (nI 0)), (2, .int (nI usr))] [] u192 0 0 _
                      refine ST.lift (fun _ _ k => T_aload_n (v := .ref 373) d_Mo_begin_273 rfl (Or.inr ⟨_, rfl⟩) k) ?_
                      refine ST.lift (fun _ _ k => T_aload_n (v := .ref 373) d_Mo_begin_274 rfl (Or.inr ⟨_, rfl⟩) k) ?_
                      refine S_getfield d_Mo_begin_275 fg_Mo_389 (w373 _) rfl ?_
                      refine ST.lift (fun _ _ k => T_bipush (v := nI 16) d_Mo_begin_278 (by decide) k) ?_
                      refine ST.lift (fun _ _ k => T_iload_n d_Mo_begin_280 rfl k) ?_
                      refine S_imulN d_Mo_begin_281 ?_
                      refine S_topi (y := nI 0) (by decide) ?_
                      refine S_virtual (as := [.ref 423, .int (nI 0)]) (rest := []) (b := 373) d_Mo_begin_282 rfl (jw_Mo_putScalar.jo (by decide)) lm_Mo_489 ji_Mo_putScalar js_Mo_putScalar (w373 _) rfl rfl rfl (Nat.le_of_ble_eq_true rfl) (by decide) (by decide) (c_Mo_putScalar G u192 423 64 (by decide) a423 (by omega) 0 (by omega)) (fun r v' hq => ?_)
                      rw [hq.1, hq.2]
                      clear hq r v'
                      show ST G mi_Mo_begin 285 [(4, .int (nI k184)), (3, .int (nI k5)), (0, .ref 373), (1, .int (nI 0)), (2, .int (nI usr))] [] u192 0 0 _
                      refine ST.lift (fun _ _ k => T_aload_n (v := .ref 373) d_Mo_begin_285 rfl (Or.inr ⟨_, rfl⟩) k) ?_
                      refine ST.lift (fun _ _ k => T_aload_n (v := .ref 373) d_Mo_begin_286 rfl (Or.inr ⟨_, rfl⟩) k) ?_
                      refine S_getfield d_Mo_begin_287 fg_Mo_416 (w373 _) rfl ?_
                      refine ST.lift (fun _ _ k => T_bipush (v := nI 96) d_Mo_begin_290 (by decide) k) ?_
                      refine ST.lift (fun _ _ k => T_iload_n d_Mo_begin_292 rfl k) ?_
                      refine S_imulN d_Mo_begin_293 ?_
                      refine S_topi (y := nI 0) (by decide) ?_
                      refine ST.lift (fun _ _ k => T_bipush (v := nI 64) d_Mo_begin_294 (by decide) k) ?_
                      refine S_iaddN d_Mo_begin_296 ?_
                      refine S_topi (y := nI 64) (by decide) ?_
                      refine S_virtual (as := [.ref 432, .int (nI 64)]) (rest := []) (b := 373) d_Mo_begin_297 rfl (jw_Mo_publicTo.jo (by decide)) lm_Mo_492 ji_Mo_publicTo js_Mo_publicTo (w373 _) rfl rfl rfl (Nat.le_of_ble_eq_true rfl) (by decide) (by decide) (c_Mo_publicTo G u192 432 384 (by decide) a432 (by omega) 64 (by omega)) (fun r v' hq => ?_)
                      rw [hq.1, hq.2]
                      clear hq r v'
                      show ST G mi_Mo_begin 300 [(4, .int (nI k184)), (3, .int (nI k5)), (0, .ref 373), (1, .int (nI 0)), (2, .int (nI usr))] [] u192 0 0 _
                      refine ST.lift (fun _ _ k => T_iconst (v := nI 0) d_Mo_begin_300 (by decide) k) ?_
                      refine ST.lift (fun _ _ k => T_istore (L' := [(4, .int (nI 0)), (3, .int (nI k5)), (0, .ref 373), (1, .int (nI 0)), (2, .int (nI usr))]) d_Mo_begin_301 (by decide) rfl k) ?_
                      have lp212 : ∀ (n210 k209 : Nat), 96 - k209 = n210 → 0 ≤ k209 ∧ k209 ≤ 0 + 96 → ST G mi_Mo_begin 303 [(4, .int (nI k209)), (3, .int (nI k5)), (0, .ref 373), (1, .int (nI 0)), (2, .int (nI usr))] [] u192 0 0 Q := by
                        intro n210
                        induction n210 using Nat.strongRecOn with
                        | _ n210 ih211 =>
                          intro k209 h213 h214
                          refine ST.lift (fun _ _ k => T_iload d_Mo_begin_303 rfl k) ?_
                          refine ST.lift (fun _ _ k => T_bipush (v := nI 96) d_Mo_begin_305 (by decide) k) ?_
                          refine S_icmp_geN d_Mo_begin_307 rfl (by omega) (by omega) (fun c215 => ?_) (fun c215 => ?_)
                          · refine ST.lift (fun _ _ k => T_iconst (v := nI 0) d_Mo_begin_340 (by decide) k) ?_
                            refine S_topi (y := nI 0) (congrArg nI (by omega)) ?_
                            exact S_ret d_Mo_begin_341 rfl rfl (by decide) (by decide) (hQ _ hv193 hm196 (es_u192.trans (congrArg nI (by omega))) (e198.trans (congrArg nI (by omega))))
                          · refine ST.lift (fun _ _ k => T_aload_n (v := .ref 373) d_Mo_begin_310 rfl (Or.inr ⟨_, rfl⟩) k) ?_
                            refine S_getfield d_Mo_begin_311 fg_Mo_419 (w373 _) rfl ?_
                            refine ST.lift (fun _ _ k => T_bipush (v := nI 96) d_Mo_begin_314 (by decide) k) ?_
                            refine ST.lift (fun _ _ k => T_iload_n d_Mo_begin_316 rfl k) ?_
                            refine S_imulN d_Mo_begin_317 ?_
                            refine S_topi (y := nI 0) (by decide) ?_
                            refine ST.lift (fun _ _ k => T_iload d_Mo_begin_318 rfl k) ?_
                            refine S_iaddN d_Mo_begin_320 ?_
                            refine ST.lift (fun _ _ k => T_aload_n (v := .ref 373) d_Mo_begin_321 rfl (Or.inr ⟨_, rfl⟩) k) ?_
                            refine S_getfield d_Mo_begin_322 fg_Mo_416 (w373 _) rfl ?_
                            refine ST.lift (fun _ _ k => T_bipush (v := nI 96) d_Mo_begin_325 (by decide) k) ?_
                            refine ST.lift (fun _ _ k => T_iload_n d_Mo_begin_327 rfl k) ?_
                            refine S_imulN d_Mo_begin_328 ?_
                            refine S_topi (y := nI 0) (by decide) ?_
                            refine ST.lift (fun _ _ k => T_iload d_Mo_begin_329 rfl k) ?_
                            refine S_iaddN d_Mo_begin_331 ?_
                            refine S_iaload d_Mo_begin_332 a432 (vp_in_nI (by omega) (by omega)) (fun z217 => ?_)
                            refine S_iastore d_Mo_begin_333 (by decide) a433 (vp_in_nI (by omega) (by omega)) ?_
                            refine S_iincN (a := k209) (b := 1) (L' := [(4, .int (nI (k209 + 1))), (3, .int (nI k5)), (0, .ref 373), (1, .int (nI 0)), (2, .int (nI usr))]) d_Mo_begin_334 (by decide) rfl rfl rfl ?_
                            refine ST.lift (fun _ _ k => T_goto (tgt := 303) d_Mo_begin_337 rfl k) ?_
                            exact ih211 (96 - (k209 + 1)) (by omega) (k209 + 1)  rfl (by omega)
                      exact lp212 _ 0  rfl (by omega)
                    · refine ST.lift (fun _ _ k => T_aload_n (v := .ref 373) d_Mo_begin_241 rfl (Or.inr ⟨_, rfl⟩) k) ?_
                      refine S_getfield d_Mo_begin_242 fg_Mo_416 (w373 _) rfl ?_
                      refine ST.lift (fun _ _ k => T_bipush (v := nI 96) d_Mo_begin_245 (by decide) k) ?_
                      refine ST.lift (fun _ _ k => T_iload_n d_Mo_begin_247 rfl k) ?_
                      refine S_imulN d_Mo_begin_248 ?_
                      refine S_topi (y := nI 0) (by decide) ?_
                      refine ST.lift (fun _ _ k => T_bipush (v := nI 32) d_Mo_begin_249 (by decide) k) ?_
                      refine S_iaddN d_Mo_begin_251 ?_
                      refine S_topi (y := nI 32) (by decide) ?_
                      refine ST.lift (fun _ _ k => T_iload d_Mo_begin_252 rfl k) ?_
                      refine S_iaddN d_Mo_begin_254 ?_
                      refine ST.lift (fun _ _ k => T_aload_n (v := .ref 373) d_Mo_begin_255 rfl (Or.inr ⟨_, rfl⟩) k) ?_
                      refine S_getfield d_Mo_begin_256 fg_Mo_55 (w373 _) rfl ?_
                      refine ST.lift (fun _ _ k => T_iload d_Mo_begin_259 rfl k) ?_
                      refine S_iaload d_Mo_begin_261 a383 (vp_in_nI (by omega) (by omega)) (fun z218 => ?_)
                      refine S_iastore d_Mo_begin_262 (by decide) a432 (vp_in_nI (by omega) (by omega)) ?_
                      refine S_iincN (a := k184) (b := 1) (L' := [(4, .int (nI (k184 + 1))), (3, .int (nI k5)), (0, .ref 373), (1, .int (nI 0)), (2, .int (nI usr))]) d_Mo_begin_263 (by decide) rfl rfl rfl ?_
                      refine ST.lift (fun _ _ k => T_goto (tgt := 234) d_Mo_begin_266 rfl k) ?_
                      exact ih186 (32 - (k184 + 1)) (by omega) (k184 + 1)  rfl (by omega)
                exact lp187 _ 0  rfl (by omega)
              · refine ST.lift (fun _ _ k => T_aload_n (v := .ref 373) d_Mo_begin_202 rfl (Or.inr ⟨_, rfl⟩) k) ?_
                refine S_getfield d_Mo_begin_203 fg_Mo_416 (w373 _) rfl ?_
                refine ST.lift (fun _ _ k => T_bipush (v := nI 96) d_Mo_begin_206 (by decide) k) ?_
                refine ST.lift (fun _ _ k => T_iload_n d_Mo_begin_208 rfl k) ?_
                refine S_imulN d_Mo_begin_209 ?_
                refine S_topi (y := nI 0) (by decide) ?_
                refine ST.lift (fun _ _ k => T_iload d_Mo_begin_210 rfl k) ?_
                refine S_iaddN d_Mo_begin_212 ?_
                refine ST.lift (fun _ _ k => T_aload_n (v := .ref 373) d_Mo_begin_213 rfl (Or.inr ⟨_, rfl⟩) k) ?_
                refine S_getfield d_Mo_begin_214 fg_Mo_146 (w373 _) rfl ?_
                refine ST.lift (fun _ _ k => T_iload d_Mo_begin_217 rfl k) ?_
                refine S_iaload d_Mo_begin_219 a394 (vp_in_nI (by omega) (by omega)) (fun z219 => ?_)
                refine S_iastore d_Mo_begin_220 (by decide) a432 (vp_in_nI (by omega) (by omega)) ?_
                refine S_iincN (a := k159) (b := 1) (L' := [(4, .int (nI (k159 + 1))), (3, .int (nI k5)), (0, .ref 373), (1, .int (nI 0)), (2, .int (nI usr))]) d_Mo_begin_221 (by decide) rfl rfl rfl ?_
                refine ST.lift (fun _ _ k => T_goto (tgt := 195) d_Mo_begin_224 rfl k) ?_
                exact ih161 (32 - (k159 + 1)) (by omega) (k159 + 1)  rfl (by omega)
          exact lp162 _ 0  rfl (by omega)
        · refine ST.lift (fun _ _ k => T_aload_n (v := .ref 373) d_Mo_begin_57 rfl (Or.inr ⟨_, rfl⟩) k) ?_
          refine S_getfield d_Mo_begin_58 fg_Mo_380 (w373 _) rfl ?_
          refine ST.lift (fun _ _ k => T_sipush (v := nI 200) d_Mo_begin_61 (by decide) k) ?_
          refine ST.lift (fun _ _ k => T_iload_n d_Mo_begin_64 rfl k) ?_
          refine S_imulN d_Mo_begin_65 ?_
          refine S_topi (y := nI 0) (by decide) ?_
          refine ST.lift (fun _ _ k => T_iload d_Mo_begin_66 rfl k) ?_
          refine S_iaddN d_Mo_begin_68 ?_
          refine ST.lift (fun _ _ k => T_aload_n (v := .ref 373) d_Mo_begin_69 rfl (Or.inr ⟨_, rfl⟩) k) ?_
          refine S_getfield d_Mo_begin_70 fg_Mo_341 (w373 _) rfl ?_
          refine ST.lift (fun _ _ k => T_iload d_Mo_begin_73 rfl k) ?_
          refine S_iaload d_Mo_begin_75 a409 (vp_in_nI (by omega) (by omega)) (fun z220 => ?_)
          refine S_iastore d_Mo_begin_76 (by decide) a420 (vp_in_nI (by omega) (by omega)) ?_
          refine S_iincN (a := k25) (b := 1) (L' := [(4, .int (nI (k25 + 1))), (3, .int (nI k5)), (0, .ref 373), (1, .int (nI 0)), (2, .int (nI usr))]) d_Mo_begin_77 (by decide) rfl rfl rfl ?_
          refine ST.lift (fun _ _ k => T_goto (tgt := 51) d_Mo_begin_80 rfl k) ?_
          exact ih27 (k5 - (k25 + 1)) (by omega) (k25 + 1)  rfl (by omega)
    exact lp28 _ 0  rfl (by omega)
  · refine ST.lift (fun _ _ k => T_iconst (v := -1) d_Mo_begin_32 (by decide) k) ?_
    exfalso; omega
set_option maxRecDepth 100000 in
set_option maxHeartbeats 4000000 in
theorem c_Mo_begin_0_neg (G : GX) (v : Nat → Int32) (x : Int32) (hx_u : x < 0) (hv : okv v) : CS G mi_Mo_begin [.ref 373, .int (nI 0), .int x] v (fun r v' => r = some (.int (-1)) ∧ okv v' ∧ mdf [66, 73] v v' ∧ v' 73 = nI 0) := by
  refine CS.of (by decide) (Nat.le_of_ble_eq_true rfl) ?_
  generalize hQe : (fun (r : Option Value) (v' : Nat → Int32) => r = some (.int (-1)) ∧ okv v' ∧ mdf [66, 73] v v' ∧ v' 73 = nI 0) = Q
  have hQ : ∀ u, okv u → mdf [66, 73] v u → u 73 = nI 0 → Q (some (.int (-1))) u := by rw [← hQe]; exact fun u h1 h2 f0 => ⟨rfl, h1, h2, f0⟩
  clear hQe
  have hm : mdf [66, 73] v v := mdf.rf
  show ST G mi_Mo_begin 0 [(0, .ref 373), (1, .int (nI 0)), (2, .int x)] [] v 0 0 Q
  refine ST.lift (fun _ _ k => T_aload_n (v := .ref 373) d_Mo_begin_0 rfl (Or.inr ⟨_, rfl⟩) k) ?_
  refine ST.lift (fun _ _ k => T_iconst (v := nI 0) d_Mo_begin_1 (by decide) k) ?_
  refine S_putfield (v' := va_up v 66 (nI 0)) d_Mo_begin_2 (fp_Mo_316 _) (w373 _) (Nat.le_of_ble_eq_true rfl) ⟨rfl, rfl⟩ (u373_0 _ _) ?_
  have hv2 := hv.off (j := 66) (x := (nI 0)) (by decide)
  have hm3 := hm.go (mdf.up (v := v) (j := 66) (x := (nI 0))) (by intro i hi; simp only [List.mem_cons, List.not_mem_nil, or_false] at hi ⊢ <;> omega)
  have e_u1 : (va_up v 66 (nI 0)) 66 = (nI 0) := by simp [va_up]
  generalize va_up v 66 (nI 0) = u1 at hv2 hm3 e_u1 ⊢
  refine ST.lift (fun _ _ k => T_aload_n (v := .ref 373) d_Mo_begin_5 rfl (Or.inr ⟨_, rfl⟩) k) ?_
  obtain ⟨k4, hk4, ek4⟩ := hv2.get (j := 73) (c := 200) (by decide)
  refine S_getfield d_Mo_begin_6 fg_Mo_344 (w373 _) rfl ?_
  refine S_topi (y := nI k4) (ek4) ?_
  refine ST.lift (fun _ _ k => T_istore_n (L' := [(3, .int (nI k4)), (0, .ref 373), (1, .int (nI 0)), (2, .int x)]) d_Mo_begin_9 (by decide) rfl k) ?_
  refine ST.lift (fun _ _ k => T_aload_n (v := .ref 373) d_Mo_begin_10 rfl (Or.inr ⟨_, rfl⟩) k) ?_
  refine ST.lift (fun _ _ k => T_iconst (v := nI 0) d_Mo_begin_11 (by decide) k) ?_
  refine S_putfield (v' := va_up u1 73 (nI 0)) d_Mo_begin_12 (fp_Mo_344 _) (w373 _) (Nat.le_of_ble_eq_true rfl) ⟨rfl, rfl⟩ (u373_43 _ _) ?_
  have hv6 := hv2.up (j := 73) (c := 200) (k := 0) (by decide) (by omega)
  have hm7 := hm3.go (mdf.up (v := u1) (j := 73) (x := (nI 0))) (by intro i hi; simp only [List.mem_cons, List.not_mem_nil, or_false] at hi ⊢ <;> omega)
  have e_u5 : (va_up u1 73 (nI 0)) 73 = (nI 0) := by simp [va_up]
  have e8 : (va_up u1 73 (nI 0)) 66 = nI 0 := by simp only [va_up]; exact e_u1
  generalize va_up u1 73 (nI 0) = u5 at hv6 hm7 e_u5 e8 ⊢
  refine ST.lift (fun _ _ k => T_iload_n d_Mo_begin_15 rfl k) ?_
  refine S_static (as := [.int (nI 0)]) (rest := []) d_Mo_begin_16 rfl (jw_Mo_isSession.jo (by decide)) lm_Mo_545 jt_Mo_isSession rfl (Nat.le_of_ble_eq_true rfl) (by decide) (by decide) (c_Mo_isSession G u5 0 (by omega)) (fun r v' hq => ?_)
  rw [hq.1, hq.2]
  clear hq r v'
  show ST G mi_Mo_begin 19 [(3, .int (nI k4)), (0, .ref 373), (1, .int (nI 0)), (2, .int x)] [.int (nI 1)] u5 0 0 _
  refine S_if_eqN d_Mo_begin_19 rfl (by omega) (fun c => by first | exact absurd c (by omega) | exact c.elim | exact absurd c (by decide) | exact absurd (by assumption) c | exact absurd c (by assumption)) (fun _ => ?_)
  refine ST.lift (fun _ _ k => T_iload_n d_Mo_begin_22 rfl k) ?_
  refine S_if_lt d_Mo_begin_23 rfl (fun _ => ?_) (fun c => by first | exact absurd c (by omega) | exact c.elim | exact absurd c (by decide) | exact absurd (by assumption) c | exact absurd c (by assumption))
  refine ST.lift (fun _ _ k => T_iconst (v := -1) d_Mo_begin_32 (by decide) k) ?_
  exact S_ret d_Mo_begin_33 rfl rfl (by decide) (by decide) (hQ _ hv6 hm7 (e_u5.trans (congrArg nI (by omega))))
set_option maxRecDepth 100000 in
set_option maxHeartbeats 4000000 in
theorem c_Mo_begin_0_big (G : GX) (v : Nat → Int32) (x : Int32) (h0_u : ¬ x < 0) (hx_u : ¬ x ≤ nI 7) (hv : okv v) : CS G mi_Mo_begin [.ref 373, .int (nI 0), .int x] v (fun r v' => r = some (.int (-1)) ∧ okv v' ∧ mdf [66, 73] v v' ∧ v' 73 = nI 0) := by
  refine CS.of (by decide) (Nat.le_of_ble_eq_true rfl) ?_
  generalize hQe : (fun (r : Option Value) (v' : Nat → Int32) => r = some (.int (-1)) ∧ okv v' ∧ mdf [66, 73] v v' ∧ v' 73 = nI 0) = Q
  have hQ : ∀ u, okv u → mdf [66, 73] v u → u 73 = nI 0 → Q (some (.int (-1))) u := by rw [← hQe]; exact fun u h1 h2 f0 => ⟨rfl, h1, h2, f0⟩
  clear hQe
  have hm : mdf [66, 73] v v := mdf.rf
  show ST G mi_Mo_begin 0 [(0, .ref 373), (1, .int (nI 0)), (2, .int x)] [] v 0 0 Q
  refine ST.lift (fun _ _ k => T_aload_n (v := .ref 373) d_Mo_begin_0 rfl (Or.inr ⟨_, rfl⟩) k) ?_
  refine ST.lift (fun _ _ k => T_iconst (v := nI 0) d_Mo_begin_1 (by decide) k) ?_
  refine S_putfield (v' := va_up v 66 (nI 0)) d_Mo_begin_2 (fp_Mo_316 _) (w373 _) (Nat.le_of_ble_eq_true rfl) ⟨rfl, rfl⟩ (u373_0 _ _) ?_
  have hv2 := hv.off (j := 66) (x := (nI 0)) (by decide)
  have hm3 := hm.go (mdf.up (v := v) (j := 66) (x := (nI 0))) (by intro i hi; simp only [List.mem_cons, List.not_mem_nil, or_false] at hi ⊢ <;> omega)
  have e_u1 : (va_up v 66 (nI 0)) 66 = (nI 0) := by simp [va_up]
  generalize va_up v 66 (nI 0) = u1 at hv2 hm3 e_u1 ⊢
  refine ST.lift (fun _ _ k => T_aload_n (v := .ref 373) d_Mo_begin_5 rfl (Or.inr ⟨_, rfl⟩) k) ?_
  obtain ⟨k4, hk4, ek4⟩ := hv2.get (j := 73) (c := 200) (by decide)
  refine S_getfield d_Mo_begin_6 fg_Mo_344 (w373 _) rfl ?_
  refine S_topi (y := nI k4) (ek4) ?_
  refine ST.lift (fun _ _ k => T_istore_n (L' := [(3, .int (nI k4)), (0, .ref 373), (1, .int (nI 0)), (2, .int x)]) d_Mo_begin_9 (by decide) rfl k) ?_
  refine ST.lift (fun _ _ k => T_aload_n (v := .ref 373) d_Mo_begin_10 rfl (Or.inr ⟨_, rfl⟩) k) ?_
  refine ST.lift (fun _ _ k => T_iconst (v := nI 0) d_Mo_begin_11 (by decide) k) ?_
  refine S_putfield (v' := va_up u1 73 (nI 0)) d_Mo_begin_12 (fp_Mo_344 _) (w373 _) (Nat.le_of_ble_eq_true rfl) ⟨rfl, rfl⟩ (u373_43 _ _) ?_
  have hv6 := hv2.up (j := 73) (c := 200) (k := 0) (by decide) (by omega)
  have hm7 := hm3.go (mdf.up (v := u1) (j := 73) (x := (nI 0))) (by intro i hi; simp only [List.mem_cons, List.not_mem_nil, or_false] at hi ⊢ <;> omega)
  have e_u5 : (va_up u1 73 (nI 0)) 73 = (nI 0) := by simp [va_up]
  have e8 : (va_up u1 73 (nI 0)) 66 = nI 0 := by simp only [va_up]; exact e_u1
  generalize va_up u1 73 (nI 0) = u5 at hv6 hm7 e_u5 e8 ⊢
  refine ST.lift (fun _ _ k => T_iload_n d_Mo_begin_15 rfl k) ?_
  refine S_static (as := [.int (nI 0)]) (rest := []) d_Mo_begin_16 rfl (jw_Mo_isSession.jo (by decide)) lm_Mo_545 jt_Mo_isSession rfl (Nat.le_of_ble_eq_true rfl) (by decide) (by decide) (c_Mo_isSession G u5 0 (by omega)) (fun r v' hq => ?_)
  rw [hq.1, hq.2]
  clear hq r v'
  show ST G mi_Mo_begin 19 [(3, .int (nI k4)), (0, .ref 373), (1, .int (nI 0)), (2, .int x)] [.int (nI 1)] u5 0 0 _
  refine S_if_eqN d_Mo_begin_19 rfl (by omega) (fun c => by first | exact absurd c (by omega) | exact c.elim | exact absurd c (by decide) | exact absurd (by assumption) c | exact absurd c (by assumption)) (fun _ => ?_)
  refine ST.lift (fun _ _ k => T_iload_n d_Mo_begin_22 rfl k) ?_
  refine S_if_lt d_Mo_begin_23 rfl (fun c => by first | exact absurd c (by omega) | exact c.elim | exact absurd c (by decide) | exact absurd (by assumption) c | exact absurd c (by assumption)) (fun _ => ?_)
  refine ST.lift (fun _ _ k => T_iload_n d_Mo_begin_26 rfl k) ?_
  refine ST.lift (fun _ _ k => T_bipush (v := nI 7) d_Mo_begin_27 (by decide) k) ?_
  refine S_icmp_le d_Mo_begin_29 rfl (fun c => by first | exact absurd c (by omega) | exact c.elim | exact absurd c (by decide) | exact absurd (by assumption) c | exact absurd c (by assumption)) (fun _ => ?_)
  refine ST.lift (fun _ _ k => T_iconst (v := -1) d_Mo_begin_32 (by decide) k) ?_
  exact S_ret d_Mo_begin_33 rfl rfl (by decide) (by decide) (hQ _ hv6 hm7 (e_u5.trans (congrArg nI (by omega))))
set_option maxRecDepth 100000 in
set_option maxHeartbeats 4000000 in
theorem c_Mo_answer_0 (G : GX) (v : Nat → Int32) (e67 : v 67 = nI 0) (hv : okv v) : CS G mi_Mo_answer [.ref 373, .int (nI 0)] v (fun r v' => ∃ z : Int32, r = some (.int z) ∧ okv v' ∧ mdf [66, 67, 70, 68, 69, 72, 75, 88, 92, 96, 100, 104, 108, 112, 116, 120, 124] v v' ∧ v' 67 = nI 0) := by
  refine CS.of (by decide) (Nat.le_of_ble_eq_true rfl) ?_
  generalize hQe : (fun (r : Option Value) (v' : Nat → Int32) => ∃ z : Int32, r = some (.int z) ∧ okv v' ∧ mdf [66, 67, 70, 68, 69, 72, 75, 88, 92, 96, 100, 104, 108, 112, 116, 120, 124] v v' ∧ v' 67 = nI 0) = Q
  have hQ : ∀ (z : Int32) (u : Nat → Int32), okv u → mdf [66, 67, 70, 68, 69, 72, 75, 88, 92, 96, 100, 104, 108, 112, 116, 120, 124] v u → u 67 = nI 0 → Q (some (.int z)) u := by rw [← hQe]; exact fun z u h1 h2 f0 => ⟨z, rfl, h1, h2, f0⟩
  clear hQe
  have hm : mdf [66, 67, 70, 68, 69, 72, 75, 88, 92, 96, 100, 104, 108, 112, 116, 120, 124] v v := mdf.rf
  show ST G mi_Mo_answer 0 [(0, .ref 373), (1, .int (nI 0))] [] v 0 0 Q
  refine ST.lift (fun _ _ k => T_aload_n (v := .ref 373) d_Mo_answer_0 rfl (Or.inr ⟨_, rfl⟩) k) ?_
  refine ST.lift (fun _ _ k => T_iconst (v := nI 0) d_Mo_answer_1 (by decide) k) ?_
  refine S_putfield (v' := va_up v 66 (nI 0)) d_Mo_answer_2 (fp_Mo_316 _) (w373 _) (Nat.le_of_ble_eq_true rfl) ⟨rfl, rfl⟩ (u373_0 _ _) ?_
  have hv2 := hv.off (j := 66) (x := (nI 0)) (by decide)
  have hm3 := hm.go (mdf.up (v := v) (j := 66) (x := (nI 0))) (by intro i hi; simp only [List.mem_cons, List.not_mem_nil, or_false] at hi ⊢ <;> omega)
  have e_u1 : (va_up v 66 (nI 0)) 66 = (nI 0) := by simp [va_up]
  have e4 : (va_up v 66 (nI 0)) 67 = nI 0 := by simp only [va_up]; exact e67
  generalize va_up v 66 (nI 0) = u1 at hv2 hm3 e_u1 e4 ⊢
  refine ST.lift (fun _ _ k => T_iload_n d_Mo_answer_5 rfl k) ?_
  refine S_static (as := [.int (nI 0)]) (rest := []) d_Mo_answer_6 rfl (jw_Mo_isSession.jo (by decide)) lm_Mo_545 jt_Mo_isSession rfl (Nat.le_of_ble_eq_true rfl) (by decide) (by decide) (c_Mo_isSession G u1 0 (by omega)) (fun r v' hq => ?_)
  rw [hq.1, hq.2]
  clear hq r v'
  show ST G mi_Mo_answer 9 [(0, .ref 373), (1, .int (nI 0))] [.int (nI 1)] u1 0 0 _
  refine S_if_neN d_Mo_answer_9 rfl (by omega) (fun _ => ?_) (fun c => by first | exact absurd c (by omega) | exact c.elim | exact absurd c (by decide) | exact absurd (by assumption) c | exact absurd c (by assumption))
  refine ST.lift (fun _ _ k => T_aload_n (v := .ref 373) d_Mo_answer_14 rfl (Or.inr ⟨_, rfl⟩) k) ?_
  refine S_getfield d_Mo_answer_15 fg_Mo_392 (w373 _) rfl ?_
  refine ST.lift (fun _ _ k => T_iload_n d_Mo_answer_18 rfl k) ?_
  refine S_xload (t := 3) (k := 0) (Or.inr ⟨rfl, d_Mo_answer_19⟩) rfl (w424 _) (by decide) (by decide) ?_
  refine S_topi (y := u1 96) rfl ?_
  refine S_if_eq d_Mo_answer_20 rfl (fun c5 => ?_) (fun c5 => ?_)
  · refine ST.lift (fun _ _ k => T_iconst (v := nI 2) d_Mo_answer_32 (by decide) k) ?_
    exact S_ret d_Mo_answer_33 rfl rfl (by decide) (by decide) (hQ _ _ hv2 hm3 (e4.trans (congrArg nI (by omega))))
  · refine ST.lift (fun _ _ k => T_aload_n (v := .ref 373) d_Mo_answer_23 rfl (Or.inr ⟨_, rfl⟩) k) ?_
    refine S_getfield d_Mo_answer_24 fg_Mo_401 (w373 _) rfl ?_
    refine ST.lift (fun _ _ k => T_iload_n d_Mo_answer_27 rfl k) ?_
    refine S_xload (t := 3) (k := 0) (Or.inr ⟨rfl, d_Mo_answer_28⟩) rfl (w427 _) (by decide) (by decide) ?_
    refine S_topi (y := u1 108) rfl ?_
    refine S_if_eq d_Mo_answer_29 rfl (fun c6 => ?_) (fun c6 => ?_)
    · refine ST.lift (fun _ _ k => T_iload_n d_Mo_answer_34 rfl k) ?_
      refine ST.lift (fun _ _ k => T_istore_n (L' := [(2, .int (nI 0)), (0, .ref 373), (1, .int (nI 0))]) d_Mo_answer_35 (by decide) rfl k) ?_
      refine ST.lift (fun _ _ k => T_aload_n (v := .ref 373) d_Mo_answer_36 rfl (Or.inr ⟨_, rfl⟩) k) ?_
      refine S_getfield d_Mo_answer_37 fg_Mo_401 (w373 _) rfl ?_
      refine ST.lift (fun _ _ k => T_iload_n d_Mo_answer_40 rfl k) ?_
      refine ST.lift (fun _ _ k => T_iconst (v := nI 1) d_Mo_answer_41 (by decide) k) ?_
      refine S_xstore (k := 0) (y := (nI 1)) (v' := va_up u1 108 (nI 1)) (Or.inr ⟨rfl, by decide, d_Mo_answer_42⟩) (by decide) rfl (w427 _) (by decide) (by decide) (x427_0 _ _) ?_
      have hv8 := hv2.off (j := 108) (x := (nI 1)) (by decide)
      have hm9 := hm3.go (mdf.up (v := u1) (j := 108) (x := (nI 1))) (by intro i hi; simp only [List.mem_cons, List.not_mem_nil, or_false] at hi ⊢ <;> omega)
      have e_u7 : (va_up u1 108 (nI 1)) 108 = (nI 1) := by simp [va_up]
      have e10 : (va_up u1 108 (nI 1)) 67 = nI 0 := by simp only [va_up]; exact e4
      have e11 : (va_up u1 108 (nI 1)) 66 = nI 0 := by simp only [va_up]; exact e_u1
      generalize va_up u1 108 (nI 1) = u7 at hv8 hm9 e_u7 e10 e11 ⊢
      refine ST.lift (fun _ _ k => T_aload_n (v := .ref 373) d_Mo_answer_43 rfl (Or.inr ⟨_, rfl⟩) k) ?_
      refine ST.lift (fun _ _ k => T_bipush (v := nI 12) d_Mo_answer_44 (by decide) k) ?_
      refine ST.lift (fun _ _ k => T_aload_n (v := .ref 373) d_Mo_answer_46 rfl (Or.inr ⟨_, rfl⟩) k) ?_
      refine S_getfield d_Mo_answer_47 fg_Mo_419 (w373 _) rfl ?_
      refine ST.lift (fun _ _ k => T_bipush (v := nI 96) d_Mo_answer_50 (by decide) k) ?_
      refine ST.lift (fun _ _ k => T_iload_n d_Mo_answer_52 rfl k) ?_
      refine S_imulN d_Mo_answer_53 ?_
      refine S_topi (y := nI 0) (by decide) ?_
      refine S_virtual (as := [.int (nI 12), .ref 433, .int (nI 0)]) (rest := []) (b := 373) d_Mo_answer_54 rfl (jw_Mo_decode.jo (by decide)) lm_Mo_502 ji_Mo_decode js_Mo_decode (w373 _) rfl rfl rfl (Nat.le_of_ble_eq_true rfl) (by decide) (by decide) (c_Mo_decode G u7 12 (by omega) 433 384 (by decide) a433 (by omega) 0 (by omega)) (fun r v' hq => ?_)
      obtain ⟨z12, hz12, hr, hv⟩ := hq
      rw [hr, hv]
      clear hr hv r v'
      show ST G mi_Mo_answer 57 [(2, .int (nI 0)), (0, .ref 373), (1, .int (nI 0))] [.int (nI z12)] u7 0 0 _
      refine S_if_eqN d_Mo_answer_57 rfl (by omega) (fun c13 => ?_) (fun c13 => ?_)
      · refine ST.lift (fun _ _ k => T_iconst (v := nI 1) d_Mo_answer_80 (by decide) k) ?_
        exact S_ret d_Mo_answer_81 rfl rfl (by decide) (by decide) (hQ _ _ hv8 hm9 (e10.trans (congrArg nI (by omega))))
      · refine ST.lift (fun _ _ k => T_aload_n (v := .ref 373) d_Mo_answer_60 rfl (Or.inr ⟨_, rfl⟩) k) ?_
        refine ST.lift (fun _ _ k => T_bipush (v := nI 12) d_Mo_answer_61 (by decide) k) ?_
        refine ST.lift (fun _ _ k => T_aload_n (v := .ref 373) d_Mo_answer_63 rfl (Or.inr ⟨_, rfl⟩) k) ?_
        refine S_getfield d_Mo_answer_64 fg_Mo_419 (w373 _) rfl ?_
        refine ST.lift (fun _ _ k => T_bipush (v := nI 96) d_Mo_answer_67 (by decide) k) ?_
        refine ST.lift (fun _ _ k => T_iload_n d_Mo_answer_69 rfl k) ?_
        refine S_imulN d_Mo_answer_70 ?_
        refine S_topi (y := nI 0) (by decide) ?_
        refine ST.lift (fun _ _ k => T_bipush (v := nI 64) d_Mo_answer_71 (by decide) k) ?_
        refine S_iaddN d_Mo_answer_73 ?_
        refine S_topi (y := nI 64) (by decide) ?_
        refine S_virtual (as := [.int (nI 12), .ref 433, .int (nI 64)]) (rest := []) (b := 373) d_Mo_answer_74 rfl (jw_Mo_decode.jo (by decide)) lm_Mo_502 ji_Mo_decode js_Mo_decode (w373 _) rfl rfl rfl (Nat.le_of_ble_eq_true rfl) (by decide) (by decide) (c_Mo_decode G u7 12 (by omega) 433 384 (by decide) a433 (by omega) 64 (by omega)) (fun r v' hq => ?_)
        obtain ⟨z14, hz14, hr, hv⟩ := hq
        rw [hr, hv]
        clear hr hv r v'
        show ST G mi_Mo_answer 77 [(2, .int (nI 0)), (0, .ref 373), (1, .int (nI 0))] [.int (nI z14)] u7 0 0 _
        refine S_if_neN d_Mo_answer_77 rfl (by omega) (fun c15 => ?_) (fun c15 => ?_)
        · refine ST.lift (fun _ _ k => T_aload_n (v := .ref 373) d_Mo_answer_82 rfl (Or.inr ⟨_, rfl⟩) k) ?_
          refine S_getfield d_Mo_answer_83 fg_Mo_377 (w373 _) rfl ?_
          refine ST.lift (fun _ _ k => T_iload_n d_Mo_answer_86 rfl k) ?_
          obtain ⟨k16, hk16, ek16⟩ := hv8.get (j := 88) (c := 7) (by decide)
          refine S_xload (t := 2) (k := 0) (Or.inl ⟨rfl, d_Mo_answer_87⟩) rfl (w419 _) (by decide) (by decide) ?_
          refine S_topi (y := u7 88) rfl ?_
          refine S_topi (y := nI k16) (ek16) ?_
          refine ST.lift (fun _ _ k => T_istore_n (L' := [(3, .int (nI k16)), (2, .int (nI 0)), (0, .ref 373), (1, .int (nI 0))]) d_Mo_answer_88 (by decide) rfl k) ?_
          refine ST.lift (fun _ _ k => T_iconst (v := nI 0) d_Mo_answer_89 (by decide) k) ?_
          refine ST.lift (fun _ _ k => T_istore (L' := [(4, .int (nI 0)), (3, .int (nI k16)), (2, .int (nI 0)), (0, .ref 373), (1, .int (nI 0))]) d_Mo_answer_90 (by decide) rfl k) ?_
          have lp20 : ∀ (n18 k17 : Nat), 192 - k17 = n18 → 0 ≤ k17 ∧ k17 ≤ 0 + 192 → ST G mi_Mo_answer 92 [(4, .int (nI k17)), (3, .int (nI k16)), (2, .int (nI 0)), (0, .ref 373), (1, .int (nI 0))] [] u7 0 0 Q := by
            intro n18
            induction n18 using Nat.strongRecOn with
            | _ n18 ih19 =>
              intro k17 h21 h22
              refine ST.lift (fun _ _ k => T_iload d_Mo_answer_92 rfl k) ?_
              refine ST.lift (fun _ _ k => T_sipush (v := nI 192) d_Mo_answer_94 (by decide) k) ?_
              refine S_icmp_geN d_Mo_answer_97 rfl (by omega) (by omega) (fun c23 => ?_) (fun c23 => ?_)
              · refine ST.lift (fun _ _ k => T_aload_n (v := .ref 373) d_Mo_answer_126 rfl (Or.inr ⟨_, rfl⟩) k) ?_
                refine S_getfield d_Mo_answer_127 fg_Mo_328 (w373 _) rfl ?_
                refine ST.lift (fun _ _ k => T_iload_n d_Mo_answer_130 rfl k) ?_
                refine S_zaload d_Mo_answer_131 a405 (vp_in_nI (by omega) (by omega)) (fun z25 hz25 => ?_)
                have J211_60 : ∀ (u61 : Nat → Int32) (hv_u61 : okv u61) (hm_u61 : mdf [66, 67, 70, 68, 69, 72, 75, 88, 92, 96, 100, 104, 108, 112, 116, 120, 124] v u61) (es_u61 : u61 67 = nI 0) (z59 : Int32), ST G mi_Mo_answer 211 [(4, .int z59), (3, .int (nI k16)), (2, .int (nI 0)), (0, .ref 373), (1, .int (nI 0))] [] u61 0 0 Q := by
                  intro u61 hv_u61 hm_u61 es_u61 z59
                  refine ST.lift (fun _ _ k => T_aload_n (v := .ref 373) d_Mo_answer_211 rfl (Or.inr ⟨_, rfl⟩) k) ?_
                  refine ST.lift (fun _ _ k => T_iload_n d_Mo_answer_212 rfl k) ?_
                  refine S_virtual (as := [.int (nI k16)]) (rest := []) (b := 373) d_Mo_answer_213 rfl (jw_Mo_userKey.jo (by decide)) lm_Mo_530 ji_Mo_userKey js_Mo_userKey (w373 _) rfl rfl rfl (Nat.le_of_ble_eq_true rfl) (by decide) (by decide) (c_Mo_userKey G u61 (nI k16) 0 es_u61 (by omega) hv_u61) (fun r u62 hq => ?_)
                  obtain ⟨hr, hv63, hm64, es_u62⟩ := hq
                  rw [hr]
                  clear hr r
                  have hm66 := hm_u61.go hm64 (by intro i hi; simp only [List.mem_cons, List.not_mem_nil, or_false] at hi ⊢ <;> omega)
                  show ST G mi_Mo_answer 216 [(4, .int z59), (3, .int (nI k16)), (2, .int (nI 0)), (0, .ref 373), (1, .int (nI 0))] [] u62 0 0 _
                  refine ST.lift (fun _ _ k => T_aload_n (v := .ref 373) d_Mo_answer_216 rfl (Or.inr ⟨_, rfl⟩) k) ?_
                  refine ST.lift (fun _ _ k => T_bipush (v := nI 12) d_Mo_answer_217 (by decide) k) ?_
                  refine ST.lift (fun _ _ k => T_aload_n (v := .ref 373) d_Mo_answer_219 rfl (Or.inr ⟨_, rfl⟩) k) ?_
                  refine S_getfield d_Mo_answer_220 fg_Mo_419 (w373 _) rfl ?_
                  refine ST.lift (fun _ _ k => T_bipush (v := nI 96) d_Mo_answer_223 (by decide) k) ?_
                  refine ST.lift (fun _ _ k => T_iload_n d_Mo_answer_225 rfl k) ?_
                  refine S_imulN d_Mo_answer_226 ?_
                  refine S_topi (y := nI 0) (by decide) ?_
                  refine S_virtual (as := [.int (nI 12), .ref 433, .int (nI 0)]) (rest := []) (b := 373) d_Mo_answer_227 rfl (jw_Mo_decode.jo (by decide)) lm_Mo_502 ji_Mo_decode js_Mo_decode (w373 _) rfl rfl rfl (Nat.le_of_ble_eq_true rfl) (by decide) (by decide) (c_Mo_decode G u62 12 (by omega) 433 384 (by decide) a433 (by omega) 0 (by omega)) (fun r v' hq => ?_)
                  obtain ⟨z67, hz67, hr, hv⟩ := hq
                  rw [hr, hv]
                  clear hr hv r v'
                  show ST G mi_Mo_answer 230 [(4, .int z59), (3, .int (nI k16)), (2, .int (nI 0)), (0, .ref 373), (1, .int (nI 0))] [.int (nI z67)] u62 0 0 _
                  refine ST.lift (fun _ _ k => T_pop d_Mo_answer_230 rfl k) ?_
                  refine ST.lift (fun _ _ k => T_aload_n (v := .ref 373) d_Mo_answer_231 rfl (Or.inr ⟨_, rfl⟩) k) ?_
                  refine ST.lift (fun _ _ k => T_bipush (v := nI 12) d_Mo_answer_232 (by decide) k) ?_
                  refine ST.lift (fun _ _ k => T_bipush (v := nI 12) d_Mo_answer_234 (by decide) k) ?_
                  refine S_virtual (as := [.int (nI 12), .int (nI 12)]) (rest := []) (b := 373) d_Mo_answer_236 rfl (jw_Mo_timesPoint.jo (by decide)) lm_Mo_290 ji_Mo_timesPoint js_Mo_timesPoint (w373 _) rfl rfl rfl (Nat.le_of_ble_eq_true rfl) (by decide) (by decide) (c_Mo_timesPoint G u62 12 (by omega) 12 (by omega)) (fun r v' hq => ?_)
                  rw [hq.1, hq.2]
                  clear hq r v'
                  show ST G mi_Mo_answer 239 [(4, .int z59), (3, .int (nI k16)), (2, .int (nI 0)), (0, .ref 373), (1, .int (nI 0))] [] u62 0 0 _
                  refine ST.lift (fun _ _ k => T_aload_n (v := .ref 373) d_Mo_answer_239 rfl (Or.inr ⟨_, rfl⟩) k) ?_
                  refine ST.lift (fun _ _ k => T_bipush (v := nI 12) d_Mo_answer_240 (by decide) k) ?_
                  refine S_virtual (as := [.int (nI 12)]) (rest := []) (b := 373) d_Mo_answer_242 rfl (jw_Mo_code.jo (by decide)) lm_Mo_293 ji_Mo_code js_Mo_code (w373 _) rfl rfl rfl (Nat.le_of_ble_eq_true rfl) (by decide) (by decide) (c_Mo_code G u62 12 (by omega)) (fun r v' hq => ?_)
                  rw [hq.1, hq.2]
                  clear hq r v'
                  show ST G mi_Mo_answer 245 [(4, .int z59), (3, .int (nI k16)), (2, .int (nI 0)), (0, .ref 373), (1, .int (nI 0))] [] u62 0 0 _
                  refine ST.lift (fun _ _ k => T_sipush (v := nI 320) d_Mo_answer_245 (by decide) k) ?_
                  refine ST.lift (fun _ _ k => T_iload_n d_Mo_answer_248 rfl k) ?_
                  refine S_imulN d_Mo_answer_249 ?_
                  refine S_topi (y := nI 0) (by decide) ?_
                  refine ST.lift (fun _ _ k => T_istore (L' := [(4, .int (nI 0)), (3, .int (nI k16)), (2, .int (nI 0)), (0, .ref 373), (1, .int (nI 0))]) d_Mo_answer_250 (by decide) rfl k) ?_
                  refine ST.lift (fun _ _ k => T_iconst (v := nI 0) d_Mo_answer_252 (by decide) k) ?_
                  refine ST.lift (fun _ _ k => T_istore (L' := [(5, .int (nI 0)), (4, .int (nI 0)), (3, .int (nI k16)), (2, .int (nI 0)), (0, .ref 373), (1, .int (nI 0))]) d_Mo_answer_253 (by decide) rfl k) ?_
                  have lp71 : ∀ (n69 k68 : Nat), 32 - k68 = n69 → 0 ≤ k68 ∧ k68 ≤ 0 + 32 → ST G mi_Mo_answer 255 [(5, .int (nI k68)), (4, .int (nI 0)), (3, .int (nI k16)), (2, .int (nI 0)), (0, .ref 373), (1, .int (nI 0))] [] u62 0 0 Q := by
                    intro n69
                    induction n69 using Nat.strongRecOn with
                    | _ n69 ih70 =>
                      intro k68 h72 h73
                      refine ST.lift (fun _ _ k => T_iload d_Mo_answer_255 rfl k) ?_
                      refine ST.lift (fun _ _ k => T_bipush (v := nI 32) d_Mo_answer_257 (by decide) k) ?_
                      refine S_icmp_geN d_Mo_answer_259 rfl (by omega) (by omega) (fun c74 => ?_) (fun c74 => ?_)
                      · refine ST.lift (fun _ _ k => T_aload_n (v := .ref 373) d_Mo_answer_285 rfl (Or.inr ⟨_, rfl⟩) k) ?_
                        refine S_virtual (as := []) (rest := []) (b := 373) d_Mo_answer_286 rfl (jw_Mo_chance.jo (by decide)) lm_Mo_304 ji_Mo_chance js_Mo_chance (w373 _) rfl rfl rfl (Nat.le_of_ble_eq_true rfl) (by decide) (by decide) (c_Mo_chance G u62 0 es_u62 (by omega) hv63) (fun r u76 hq => ?_)
                        obtain ⟨hr, hv77, hm78, es_u76⟩ := hq
                        rw [hr]
                        clear hr r
                        have hm80 := hm66.go hm78 (by intro i hi; simp only [List.mem_cons, List.not_mem_nil, or_false] at hi ⊢ <;> omega)
                        show ST G mi_Mo_answer 289 [(5, .int (nI k68)), (4, .int (nI 0)), (3, .int (nI k16)), (2, .int (nI 0)), (0, .ref 373), (1, .int (nI 0))] [] u76 0 0 _
                        refine ST.lift (fun _ _ k => T_iconst (v := nI 0) d_Mo_answer_289 (by decide) k) ?_
                        refine ST.lift (fun _ _ k => T_istore (L' := [(5, .int (nI 0)), (4, .int (nI 0)), (3, .int (nI k16)), (2, .int (nI 0)), (0, .ref 373), (1, .int (nI 0))]) d_Mo_answer_290 (by decide) rfl k) ?_
                        have lp84 : ∀ (n82 k81 : Nat), 32 - k81 = n82 → 0 ≤ k81 ∧ k81 ≤ 0 + 32 → ST G mi_Mo_answer 292 [(5, .int (nI k81)), (4, .int (nI 0)), (3, .int (nI k16)), (2, .int (nI 0)), (0, .ref 373), (1, .int (nI 0))] [] u76 0 0 Q := by
                          intro n82
                          induction n82 using Nat.strongRecOn with
                          | _ n82 ih83 =>
                            intro k81 h85 h86
                            refine ST.lift (fun _ _ k => T_iload d_Mo_answer_292 rfl k) ?_
                            refine ST.lift (fun _ _ k => T_bipush (v := nI 32) d_Mo_answer_294 (by decide) k) ?_
                            refine S_icmp_geN d_Mo_answer_296 rfl (by omega) (by omega) (fun c87 => ?_) (fun c87 => ?_)
                            · refine ST.lift (fun _ _ k => T_aload_n (v := .ref 373) d_Mo_answer_325 rfl (Or.inr ⟨_, rfl⟩) k) ?_
                              refine ST.lift (fun _ _ k => T_aload_n (v := .ref 373) d_Mo_answer_326 rfl (Or.inr ⟨_, rfl⟩) k) ?_
                              refine S_getfield d_Mo_answer_327 fg_Mo_335 (w373 _) rfl ?_
                              refine ST.lift (fun _ _ k => T_bipush (v := nI 32) d_Mo_answer_330 (by decide) k) ?_
                              refine ST.lift (fun _ _ k => T_aload_n (v := .ref 373) d_Mo_answer_332 rfl (Or.inr ⟨_, rfl⟩) k) ?_
                              refine S_getfield d_Mo_answer_333 fg_Mo_422 (w373 _) rfl ?_
                              refine ST.lift (fun _ _ k => T_iload d_Mo_answer_336 rfl k) ?_
                              refine ST.lift (fun _ _ k => T_bipush (v := nI 32) d_Mo_answer_338 (by decide) k) ?_
                              refine S_iaddN d_Mo_answer_340 ?_
                              refine S_topi (y := nI 32) (by decide) ?_
                              refine S_virtual (as := [.ref 407, .int (nI 32), .ref 434, .int (nI 32)]) (rest := []) (b := 373) d_Mo_answer_341 rfl (jw_Mo_padOf.jo (by decide)) lm_Mo_578 ji_Mo_padOf js_Mo_padOf (w373 _) rfl rfl rfl (Nat.le_of_ble_eq_true rfl) (by decide) (by decide) (c_Mo_padOf G u76 407 192 (by decide) a407 (by omega) 32 (by omega) 434 1280 (by decide) a434 (by omega) 32 (by omega) 0 es_u76 (by omega) hv77) (fun r u89 hq => ?_)
                              obtain ⟨hr, hv90, hm91, es_u89⟩ := hq
                              rw [hr]
                              clear hr r
                              have hm93 := hm80.go hm91 (by intro i hi; simp only [List.mem_cons, List.not_mem_nil, or_false] at hi ⊢ <;> omega)
                              show ST G mi_Mo_answer 344 [(5, .int (nI k81)), (4, .int (nI 0)), (3, .int (nI k16)), (2, .int (nI 0)), (0, .ref 373), (1, .int (nI 0))] [] u89 0 0 _
                              refine ST.lift (fun _ _ k => T_iconst (v := nI 0) d_Mo_answer_344 (by decide) k) ?_
                              refine ST.lift (fun _ _ k => T_istore (L' := [(5, .int (nI 0)), (4, .int (nI 0)), (3, .int (nI k16)), (2, .int (nI 0)), (0, .ref 373), (1, .int (nI 0))]) d_Mo_answer_345 (by decide) rfl k) ?_
                              have lp97 : ∀ (n95 k94 : Nat), 32 - k94 = n95 → 0 ≤ k94 ∧ k94 ≤ 0 + 32 → ST G mi_Mo_answer 347 [(5, .int (nI k94)), (4, .int (nI 0)), (3, .int (nI k16)), (2, .int (nI 0)), (0, .ref 373), (1, .int (nI 0))] [] u89 0 0 Q := by
                                intro n95
                                induction n95 using Nat.strongRecOn with
                                | _ n95 ih96 =>
                                  intro k94 h98 h99
                                  refine ST.lift (fun _ _ k => T_iload d_Mo_answer_347 rfl k) ?_
                                  refine ST.lift (fun _ _ k => T_bipush (v := nI 32) d_Mo_answer_349 (by decide) k) ?_
                                  refine S_icmp_geN d_Mo_answer_351 rfl (by omega) (by omega) (fun c100 => ?_) (fun c100 => ?_)
                                  · refine ST.lift (fun _ _ k => T_iconst (v := nI 0) d_Mo_answer_388 (by decide) k) ?_
                                    refine ST.lift (fun _ _ k => T_istore (L' := [(5, .int (nI 0)), (4, .int (nI 0)), (3, .int (nI k16)), (2, .int (nI 0)), (0, .ref 373), (1, .int (nI 0))]) d_Mo_answer_389 (by decide) rfl k) ?_
                                    have lp107 : ∀ (n105 k104 : Nat), 96 - k104 = n105 → 0 ≤ k104 ∧ k104 ≤ 0 + 96 → ST G mi_Mo_answer 391 [(5, .int (nI k104)), (4, .int (nI 0)), (3, .int (nI k16)), (2, .int (nI 0)), (0, .ref 373), (1, .int (nI 0))] [] u89 0 0 Q := by
                                      intro n105
                                      induction n105 using Nat.strongRecOn with
                                      | _ n105 ih106 =>
                                        intro k104 h108 h109
                                        refine ST.lift (fun _ _ k => T_iload d_Mo_answer_391 rfl k) ?_
                                        refine ST.lift (fun _ _ k => T_bipush (v := nI 96) d_Mo_answer_393 (by decide) k) ?_
                                        refine S_icmp_geN d_Mo_answer_395 rfl (by omega) (by omega) (fun c110 => ?_) (fun c110 => ?_)
                                        · refine ST.lift (fun _ _ k => T_aload_n (v := .ref 373) d_Mo_answer_438 rfl (Or.inr ⟨_, rfl⟩) k) ?_
                                          refine S_virtual (as := []) (rest := []) (b := 373) d_Mo_answer_439 rfl (jw_Mo_chance.jo (by decide)) lm_Mo_304 ji_Mo_chance js_Mo_chance (w373 _) rfl rfl rfl (Nat.le_of_ble_eq_true rfl) (by decide) (by decide) (c_Mo_chance G u89 0 es_u89 (by omega) hv90) (fun r u114 hq => ?_)
                                          obtain ⟨hr, hv115, hm116, es_u114⟩ := hq
                                          rw [hr]
                                          clear hr r
                                          have hm118 := hm93.go hm116 (by intro i hi; simp only [List.mem_cons, List.not_mem_nil, or_false] at hi ⊢ <;> omega)
                                          show ST G mi_Mo_answer 442 [(5, .int (nI k104)), (4, .int (nI 0)), (3, .int (nI k16)), (2, .int (nI 0)), (0, .ref 373), (1, .int (nI 0))] [] u114 0 0 _
                                          refine ST.lift (fun _ _ k => T_iconst (v := nI 0) d_Mo_answer_442 (by decide) k) ?_
                                          refine ST.lift (fun _ _ k => T_istore (L' := [(5, .int (nI 0)), (4, .int (nI 0)), (3, .int (nI k16)), (2, .int (nI 0)), (0, .ref 373), (1, .int (nI 0))]) d_Mo_answer_443 (by decide) rfl k) ?_
                                          have lp122 : ∀ (n120 k119 : Nat), 32 - k119 = n120 → 0 ≤ k119 ∧ k119 ≤ 0 + 32 → ST G mi_Mo_answer 445 [(5, .int (nI k119)), (4, .int (nI 0)), (3, .int (nI k16)), (2, .int (nI 0)), (0, .ref 373), (1, .int (nI 0))] [] u114 0 0 Q := by
                                            intro n120
                                            induction n120 using Nat.strongRecOn with
                                            | _ n120 ih121 =>
                                              intro k119 h123 h124
                                              refine ST.lift (fun _ _ k => T_iload d_Mo_answer_445 rfl k) ?_
                                              refine ST.lift (fun _ _ k => T_bipush (v := nI 32) d_Mo_answer_447 (by decide) k) ?_
                                              refine S_icmp_geN d_Mo_answer_449 rfl (by omega) (by omega) (fun c125 => ?_) (fun c125 => ?_)
                                              · refine ST.lift (fun _ _ k => T_aload_n (v := .ref 373) d_Mo_answer_479 rfl (Or.inr ⟨_, rfl⟩) k) ?_
                                                refine S_virtual (as := []) (rest := []) (b := 373) d_Mo_answer_480 rfl (jw_Mo_chanceScalar.jo (by decide)) lm_Mo_548 ji_Mo_chanceScalar js_Mo_chanceScalar (w373 _) rfl rfl rfl (Nat.le_of_ble_eq_true rfl) (by decide) (by decide) (c_Mo_chanceScalar G u114 0 es_u114 (by omega) hv115) (fun r u127 hq => ?_)
                                                obtain ⟨hr, hv128, hm129, es_u127⟩ := hq
                                                rw [hr]
                                                clear hr r
                                                have hm131 := hm118.go hm129 (by intro i hi; simp only [List.mem_cons, List.not_mem_nil, or_false] at hi ⊢ <;> omega)
                                                show ST G mi_Mo_answer 483 [(5, .int (nI k119)), (4, .int (nI 0)), (3, .int (nI k16)), (2, .int (nI 0)), (0, .ref 373), (1, .int (nI 0))] [] u127 0 0 _
                                                refine ST.lift (fun _ _ k => T_aload_n (v := .ref 373) d_Mo_answer_483 rfl (Or.inr ⟨_, rfl⟩) k) ?_
                                                refine ST.lift (fun _ _ k => T_aload_n (v := .ref 373) d_Mo_answer_484 rfl (Or.inr ⟨_, rfl⟩) k) ?_
                                                refine S_getfield d_Mo_answer_485 fg_Mo_470 (w373 _) rfl ?_
                                                refine ST.lift (fun _ _ k => T_iconst (v := nI 0) d_Mo_answer_488 (by decide) k) ?_
                                                refine S_virtual (as := [.ref 449, .int (nI 0)]) (rest := []) (b := 373) d_Mo_answer_489 rfl (jw_Mo_putScalar.jo (by decide)) lm_Mo_489 ji_Mo_putScalar js_Mo_putScalar (w373 _) rfl rfl rfl (Nat.le_of_ble_eq_true rfl) (by decide) (by decide) (c_Mo_putScalar G u127 449 16 (by decide) a449 (by omega) 0 (by omega)) (fun r v' hq => ?_)
                                                rw [hq.1, hq.2]
                                                clear hq r v'
                                                show ST G mi_Mo_answer 492 [(5, .int (nI k119)), (4, .int (nI 0)), (3, .int (nI k16)), (2, .int (nI 0)), (0, .ref 373), (1, .int (nI 0))] [] u127 0 0 _
                                                refine ST.lift (fun _ _ k => T_aload_n (v := .ref 373) d_Mo_answer_492 rfl (Or.inr ⟨_, rfl⟩) k) ?_
                                                refine ST.lift (fun _ _ k => T_aload_n (v := .ref 373) d_Mo_answer_493 rfl (Or.inr ⟨_, rfl⟩) k) ?_
                                                refine S_getfield d_Mo_answer_494 fg_Mo_422 (w373 _) rfl ?_
                                                refine ST.lift (fun _ _ k => T_iload d_Mo_answer_497 rfl k) ?_
                                                refine ST.lift (fun _ _ k => T_sipush (v := nI 224) d_Mo_answer_499 (by decide) k) ?_
                                                refine S_iaddN d_Mo_answer_502 ?_
                                                refine S_topi (y := nI 224) (by decide) ?_
                                                refine S_virtual (as := [.ref 434, .int (nI 224)]) (rest := []) (b := 373) d_Mo_answer_503 rfl (jw_Mo_publicTo.jo (by decide)) lm_Mo_492 ji_Mo_publicTo js_Mo_publicTo (w373 _) rfl rfl rfl (Nat.le_of_ble_eq_true rfl) (by decide) (by decide) (c_Mo_publicTo G u127 434 1280 (by decide) a434 (by omega) 224 (by omega)) (fun r v' hq => ?_)
                                                rw [hq.1, hq.2]
                                                clear hq r v'
                                                show ST G mi_Mo_answer 506 [(5, .int (nI k119)), (4, .int (nI 0)), (3, .int (nI k16)), (2, .int (nI 0)), (0, .ref 373), (1, .int (nI 0))] [] u127 0 0 _
                                                refine ST.lift (fun _ _ k => T_aload_n (v := .ref 373) d_Mo_answer_506 rfl (Or.inr ⟨_, rfl⟩) k) ?_
                                                refine ST.lift (fun _ _ k => T_bipush (v := nI 12) d_Mo_answer_507 (by decide) k) ?_
                                                refine ST.lift (fun _ _ k => T_aload_n (v := .ref 373) d_Mo_answer_509 rfl (Or.inr ⟨_, rfl⟩) k) ?_
                                                refine S_getfield d_Mo_answer_510 fg_Mo_419 (w373 _) rfl ?_
                                                refine ST.lift (fun _ _ k => T_bipush (v := nI 96) d_Mo_answer_513 (by decide) k) ?_
                                                refine ST.lift (fun _ _ k => T_iload_n d_Mo_answer_515 rfl k) ?_
                                                refine S_imulN d_Mo_answer_516 ?_
                                                refine S_topi (y := nI 0) (by decide) ?_
                                                refine ST.lift (fun _ _ k => T_bipush (v := nI 64) d_Mo_answer_517 (by decide) k) ?_
                                                refine S_iaddN d_Mo_answer_519 ?_
                                                refine S_topi (y := nI 64) (by decide) ?_
                                                refine S_virtual (as := [.int (nI 12), .ref 433, .int (nI 64)]) (rest := []) (b := 373) d_Mo_answer_520 rfl (jw_Mo_decode.jo (by decide)) lm_Mo_502 ji_Mo_decode js_Mo_decode (w373 _) rfl rfl rfl (Nat.le_of_ble_eq_true rfl) (by decide) (by decide) (c_Mo_decode G u127 12 (by omega) 433 384 (by decide) a433 (by omega) 64 (by omega)) (fun r v' hq => ?_)
                                                obtain ⟨z132, hz132, hr, hv⟩ := hq
                                                rw [hr, hv]
                                                clear hr hv r v'
                                                show ST G mi_Mo_answer 523 [(5, .int (nI k119)), (4, .int (nI 0)), (3, .int (nI k16)), (2, .int (nI 0)), (0, .ref 373), (1, .int (nI 0))] [.int (nI z132)] u127 0 0 _
                                                refine ST.lift (fun _ _ k => T_pop d_Mo_answer_523 rfl k) ?_
                                                refine ST.lift (fun _ _ k => T_aload_n (v := .ref 373) d_Mo_answer_524 rfl (Or.inr ⟨_, rfl⟩) k) ?_
                                                refine ST.lift (fun _ _ k => T_aload_n (v := .ref 373) d_Mo_answer_525 rfl (Or.inr ⟨_, rfl⟩) k) ?_
                                                refine S_getfield d_Mo_answer_526 fg_Mo_470 (w373 _) rfl ?_
                                                refine ST.lift (fun _ _ k => T_iconst (v := nI 0) d_Mo_answer_529 (by decide) k) ?_
                                                refine S_virtual (as := [.ref 449, .int (nI 0)]) (rest := []) (b := 373) d_Mo_answer_530 rfl (jw_Mo_takeScalar.jo (by decide)) lm_Mo_533 ji_Mo_takeScalar js_Mo_takeScalar (w373 _) rfl rfl rfl (Nat.le_of_ble_eq_true rfl) (by decide) (by decide) (c_Mo_takeScalar G u127 449 16 (by decide) a449 (by omega) 0 (by omega)) (fun r v' hq => ?_)
                                                rw [hq.1, hq.2]
                                                clear hq r v'
                                                show ST G mi_Mo_answer 533 [(5, .int (nI k119)), (4, .int (nI 0)), (3, .int (nI k16)), (2, .int (nI 0)), (0, .ref 373), (1, .int (nI 0))] [] u127 0 0 _
                                                refine ST.lift (fun _ _ k => T_aload_n (v := .ref 373) d_Mo_answer_533 rfl (Or.inr ⟨_, rfl⟩) k) ?_
                                                refine ST.lift (fun _ _ k => T_iconst (v := nI 0) d_Mo_answer_534 (by decide) k) ?_
                                                refine ST.lift (fun _ _ k => T_bipush (v := nI 12) d_Mo_answer_535 (by decide) k) ?_
                                                refine S_virtual (as := [.int (nI 0), .int (nI 12)]) (rest := []) (b := 373) d_Mo_answer_537 rfl (jw_Mo_share.jo (by decide)) lm_Mo_582 ji_Mo_share js_Mo_share (w373 _) rfl rfl rfl (Nat.le_of_ble_eq_true rfl) (by decide) (by decide) (c_Mo_share G u127 0 (by omega) 12 (by omega)) (fun r v' hq => ?_)
                                                rw [hq.1, hq.2]
                                                clear hq r v'
                                                show ST G mi_Mo_answer 540 [(5, .int (nI k119)), (4, .int (nI 0)), (3, .int (nI k16)), (2, .int (nI 0)), (0, .ref 373), (1, .int (nI 0))] [] u127 0 0 _
                                                refine ST.lift (fun _ _ k => T_aload_n (v := .ref 373) d_Mo_answer_540 rfl (Or.inr ⟨_, rfl⟩) k) ?_
                                                refine ST.lift (fun _ _ k => T_aload_n (v := .ref 373) d_Mo_answer_541 rfl (Or.inr ⟨_, rfl⟩) k) ?_
                                                refine S_getfield d_Mo_answer_542 fg_Mo_322 (w373 _) rfl ?_
                                                refine ST.lift (fun _ _ k => T_iconst (v := nI 0) d_Mo_answer_545 (by decide) k) ?_
                                                refine S_virtual (as := [.ref 403, .int (nI 0)]) (rest := []) (b := 373) d_Mo_answer_546 rfl (jw_Mo_takeScalar.jo (by decide)) lm_Mo_533 ji_Mo_takeScalar js_Mo_takeScalar (w373 _) rfl rfl rfl (Nat.le_of_ble_eq_true rfl) (by decide) (by decide) (c_Mo_takeScalar G u127 403 16 (by decide) a403 (by omega) 0 (by omega)) (fun r v' hq => ?_)
                                                rw [hq.1, hq.2]
                                                clear hq r v'
                                                show ST G mi_Mo_answer 549 [(5, .int (nI k119)), (4, .int (nI 0)), (3, .int (nI k16)), (2, .int (nI 0)), (0, .ref 373), (1, .int (nI 0))] [] u127 0 0 _
                                                refine ST.lift (fun _ _ k => T_aload_n (v := .ref 373) d_Mo_answer_549 rfl (Or.inr ⟨_, rfl⟩) k) ?_
                                                refine ST.lift (fun _ _ k => T_bipush (v := nI 32) d_Mo_answer_550 (by decide) k) ?_
                                                refine ST.lift (fun _ _ k => T_bipush (v := nI 12) d_Mo_answer_552 (by decide) k) ?_
                                                refine S_virtual (as := [.int (nI 32), .int (nI 12)]) (rest := []) (b := 373) d_Mo_answer_554 rfl (jw_Mo_share.jo (by decide)) lm_Mo_582 ji_Mo_share js_Mo_share (w373 _) rfl rfl rfl (Nat.le_of_ble_eq_true rfl) (by decide) (by decide) (c_Mo_share G u127 32 (by omega) 12 (by omega)) (fun r v' hq => ?_)
                                                rw [hq.1, hq.2]
                                                clear hq r v'
                                                show ST G mi_Mo_answer 557 [(5, .int (nI k119)), (4, .int (nI 0)), (3, .int (nI k16)), (2, .int (nI 0)), (0, .ref 373), (1, .int (nI 0))] [] u127 0 0 _
                                                refine ST.lift (fun _ _ k => T_aload_n (v := .ref 373) d_Mo_answer_557 rfl (Or.inr ⟨_, rfl⟩) k) ?_
                                                refine ST.lift (fun _ _ k => T_bipush (v := nI 12) d_Mo_answer_558 (by decide) k) ?_
                                                refine ST.lift (fun _ _ k => T_aload_n (v := .ref 373) d_Mo_answer_560 rfl (Or.inr ⟨_, rfl⟩) k) ?_
                                                refine S_getfield d_Mo_answer_561 fg_Mo_335 (w373 _) rfl ?_
                                                refine ST.lift (fun _ _ k => T_iconst (v := nI 0) d_Mo_answer_564 (by decide) k) ?_
                                                refine S_virtual (as := [.int (nI 12), .ref 407, .int (nI 0)]) (rest := []) (b := 373) d_Mo_answer_565 rfl (jw_Mo_decode.jo (by decide)) lm_Mo_502 ji_Mo_decode js_Mo_decode (w373 _) rfl rfl rfl (Nat.le_of_ble_eq_true rfl) (by decide) (by decide) (c_Mo_decode G u127 12 (by omega) 407 192 (by decide) a407 (by omega) 0 (by omega)) (fun r v' hq => ?_)
                                                obtain ⟨z133, hz133, hr, hv⟩ := hq
                                                rw [hr, hv]
                                                clear hr hv r v'
                                                show ST G mi_Mo_answer 568 [(5, .int (nI k119)), (4, .int (nI 0)), (3, .int (nI k16)), (2, .int (nI 0)), (0, .ref 373), (1, .int (nI 0))] [.int (nI z133)] u127 0 0 _
                                                refine ST.lift (fun _ _ k => T_pop d_Mo_answer_568 rfl k) ?_
                                                refine ST.lift (fun _ _ k => T_aload_n (v := .ref 373) d_Mo_answer_569 rfl (Or.inr ⟨_, rfl⟩) k) ?_
                                                refine ST.lift (fun _ _ k => T_aload_n (v := .ref 373) d_Mo_answer_570 rfl (Or.inr ⟨_, rfl⟩) k) ?_
                                                refine S_getfield d_Mo_answer_571 fg_Mo_470 (w373 _) rfl ?_
                                                refine ST.lift (fun _ _ k => T_iconst (v := nI 0) d_Mo_answer_574 (by decide) k) ?_
                                                refine S_virtual (as := [.ref 449, .int (nI 0)]) (rest := []) (b := 373) d_Mo_answer_575 rfl (jw_Mo_takeScalar.jo (by decide)) lm_Mo_533 ji_Mo_takeScalar js_Mo_takeScalar (w373 _) rfl rfl rfl (Nat.le_of_ble_eq_true rfl) (by decide) (by decide) (c_Mo_takeScalar G u127 449 16 (by decide) a449 (by omega) 0 (by omega)) (fun r v' hq => ?_)
                                                rw [hq.1, hq.2]
                                                clear hq r v'
                                                show ST G mi_Mo_answer 578 [(5, .int (nI k119)), (4, .int (nI 0)), (3, .int (nI k16)), (2, .int (nI 0)), (0, .ref 373), (1, .int (nI 0))] [] u127 0 0 _
                                                refine ST.lift (fun _ _ k => T_aload_n (v := .ref 373) d_Mo_answer_578 rfl (Or.inr ⟨_, rfl⟩) k) ?_
                                                refine ST.lift (fun _ _ k => T_bipush (v := nI 64) d_Mo_answer_579 (by decide) k) ?_
                                                refine ST.lift (fun _ _ k => T_bipush (v := nI 12) d_Mo_answer_581 (by decide) k) ?_
                                                refine S_virtual (as := [.int (nI 64), .int (nI 12)]) (rest := []) (b := 373) d_Mo_answer_583 rfl (jw_Mo_share.jo (by decide)) lm_Mo_582 ji_Mo_share js_Mo_share (w373 _) rfl rfl rfl (Nat.le_of_ble_eq_true rfl) (by decide) (by decide) (c_Mo_share G u127 64 (by omega) 12 (by omega)) (fun r v' hq => ?_)
                                                rw [hq.1, hq.2]
                                                clear hq r v'
                                                show ST G mi_Mo_answer 586 [(5, .int (nI k119)), (4, .int (nI 0)), (3, .int (nI k16)), (2, .int (nI 0)), (0, .ref 373), (1, .int (nI 0))] [] u127 0 0 _
                                                refine ST.lift (fun _ _ k => T_aload_n (v := .ref 373) d_Mo_answer_586 rfl (Or.inr ⟨_, rfl⟩) k) ?_
                                                refine ST.lift (fun _ _ k => T_aload_n (v := .ref 373) d_Mo_answer_587 rfl (Or.inr ⟨_, rfl⟩) k) ?_
                                                refine S_getfield d_Mo_answer_588 fg_Mo_335 (w373 _) rfl ?_
                                                refine ST.lift (fun _ _ k => T_iconst (v := nI 0) d_Mo_answer_591 (by decide) k) ?_
                                                refine ST.lift (fun _ _ k => T_aload_n (v := .ref 373) d_Mo_answer_592 rfl (Or.inr ⟨_, rfl⟩) k) ?_
                                                refine S_getfield d_Mo_answer_593 fg_Mo_419 (w373 _) rfl ?_
                                                refine ST.lift (fun _ _ k => T_bipush (v := nI 96) d_Mo_answer_596 (by decide) k) ?_
                                                refine ST.lift (fun _ _ k => T_iload_n d_Mo_answer_598 rfl k) ?_
                                                refine S_imulN d_Mo_answer_599 ?_
                                                refine S_topi (y := nI 0) (by decide) ?_
                                                refine ST.lift (fun _ _ k => T_aload_n (v := .ref 373) d_Mo_answer_600 rfl (Or.inr ⟨_, rfl⟩) k) ?_
                                                refine S_getfield d_Mo_answer_601 fg_Mo_325 (w373 _) rfl ?_
                                                refine ST.lift (fun _ _ k => T_iconst (v := nI 0) d_Mo_answer_604 (by decide) k) ?_
                                                refine ST.lift (fun _ _ k => T_aload_n (v := .ref 373) d_Mo_answer_605 rfl (Or.inr ⟨_, rfl⟩) k) ?_
                                                refine S_getfield d_Mo_answer_606 fg_Mo_422 (w373 _) rfl ?_
                                                refine ST.lift (fun _ _ k => T_iload d_Mo_answer_609 rfl k) ?_
                                                refine S_virtual (as := [.ref 407, .int (nI 0), .ref 433, .int (nI 0), .ref 404, .int (nI 0), .ref 434, .int (nI 0)]) (rest := []) (b := 373) d_Mo_answer_611 rfl (jw_Mo_preambleOf.jo (by decide)) lm_Mo_585 ji_Mo_preambleOf js_Mo_preambleOf (w373 _) rfl rfl rfl (Nat.le_of_ble_eq_true rfl) (by decide) (by decide) (c_Mo_preambleOf G u127 407 192 (by decide) a407 (by omega) 0 (by omega) 433 384 (by decide) a433 (by omega) 0 (by omega) 404 32 (by decide) a404 (by omega) 0 (by omega) 434 1280 (by decide) a434 (by omega) 0 (by omega) 0 es_u127 (by omega) hv128) (fun r u134 hq => ?_)
                                                obtain ⟨hr, hv135, hm136, es_u134⟩ := hq
                                                rw [hr]
                                                clear hr r
                                                have hm138 := hm131.go hm136 (by intro i hi; simp only [List.mem_cons, List.not_mem_nil, or_false] at hi ⊢ <;> omega)
                                                show ST G mi_Mo_answer 614 [(5, .int (nI k119)), (4, .int (nI 0)), (3, .int (nI k16)), (2, .int (nI 0)), (0, .ref 373), (1, .int (nI 0))] [] u134 0 0 _
                                                refine ST.lift (fun _ _ k => T_aload_n (v := .ref 373) d_Mo_answer_614 rfl (Or.inr ⟨_, rfl⟩) k) ?_
                                                refine S_virtual (as := []) (rest := []) (b := 373) d_Mo_answer_615 rfl (jw_Mo_derive.jo (by decide)) lm_Mo_589 ji_Mo_derive js_Mo_derive (w373 _) rfl rfl rfl (Nat.le_of_ble_eq_true rfl) (by decide) (by decide) (c_Mo_derive G u134 0 es_u134 (by omega) hv135) (fun r u139 hq => ?_)
                                                obtain ⟨hr, hv140, hm141, es_u139⟩ := hq
                                                rw [hr]
                                                clear hr r
                                                have hm143 := hm138.go hm141 (by intro i hi; simp only [List.mem_cons, List.not_mem_nil, or_false] at hi ⊢ <;> omega)
                                                show ST G mi_Mo_answer 618 [(5, .int (nI k119)), (4, .int (nI 0)), (3, .int (nI k16)), (2, .int (nI 0)), (0, .ref 373), (1, .int (nI 0))] [] u139 0 0 _
                                                refine ST.lift (fun _ _ k => T_iconst (v := nI 0) d_Mo_answer_618 (by decide) k) ?_
                                                refine ST.lift (fun _ _ k => T_istore (L' := [(5, .int (nI 0)), (4, .int (nI 0)), (3, .int (nI k16)), (2, .int (nI 0)), (0, .ref 373), (1, .int (nI 0))]) d_Mo_answer_619 (by decide) rfl k) ?_
                                                have lp147 : ∀ (n145 k144 : Nat), 64 - k144 = n145 → 0 ≤ k144 ∧ k144 ≤ 0 + 64 → ST G mi_Mo_answer 621 [(5, .int (nI k144)), (4, .int (nI 0)), (3, .int (nI k16)), (2, .int (nI 0)), (0, .ref 373), (1, .int (nI 0))] [] u139 0 0 Q := by
                                                  intro n145
                                                  induction n145 using Nat.strongRecOn with
                                                  | _ n145 ih146 =>
                                                    intro k144 h148 h149
                                                    refine ST.lift (fun _ _ k => T_iload d_Mo_answer_621 rfl k) ?_
                                                    refine ST.lift (fun _ _ k => T_bipush (v := nI 64) d_Mo_answer_623 (by decide) k) ?_
                                                    refine S_icmp_geN d_Mo_answer_625 rfl (by omega) (by omega) (fun c150 => ?_) (fun c150 => ?_)
                                                    · refine ST.lift (fun _ _ k => T_aload_n (v := .ref 373) d_Mo_answer_693 rfl (Or.inr ⟨_, rfl⟩) k) ?_
                                                      refine S_getfield d_Mo_answer_694 fg_Mo_395 (w373 _) rfl ?_
                                                      refine ST.lift (fun _ _ k => T_iload_n d_Mo_answer_697 rfl k) ?_
                                                      refine ST.lift (fun _ _ k => T_iconst (v := nI 1) d_Mo_answer_698 (by decide) k) ?_
                                                      refine S_xstore (k := 0) (y := (nI 1)) (v' := va_up u139 100 (nI 1)) (Or.inr ⟨rfl, by decide, d_Mo_answer_699⟩) (by decide) rfl (w425 _) (by decide) (by decide) (x425_0 _ _) ?_
                                                      have hv155 := hv140.off (j := 100) (x := (nI 1)) (by decide)
                                                      have hm156 := hm143.go (mdf.up (v := u139) (j := 100) (x := (nI 1))) (by intro i hi; simp only [List.mem_cons, List.not_mem_nil, or_false] at hi ⊢ <;> omega)
                                                      have e_u154 : (va_up u139 100 (nI 1)) 100 = (nI 1) := by simp [va_up]
                                                      have e157 : (va_up u139 100 (nI 1)) 67 = nI 0 := by simp only [va_up]; exact es_u139
                                                      generalize va_up u139 100 (nI 1) = u154 at hv155 hm156 e_u154 e157 ⊢
                                                      refine ST.lift (fun _ _ k => T_iconst (v := nI 0) d_Mo_answer_700 (by decide) k) ?_
                                                      exact S_ret d_Mo_answer_701 rfl rfl (by decide) (by decide) (hQ _ _ hv155 hm156 (e157.trans (congrArg nI (by omega))))
                                                    · refine ST.lift (fun _ _ k => T_aload_n (v := .ref 373) d_Mo_answer_628 rfl (Or.inr ⟨_, rfl⟩) k) ?_
                                                      refine S_getfield d_Mo_answer_629 fg_Mo_422 (w373 _) rfl ?_
                                                      refine ST.lift (fun _ _ k => T_iload d_Mo_answer_632 rfl k) ?_
                                                      refine ST.lift (fun _ _ k => T_sipush (v := nI 256) d_Mo_answer_634 (by decide) k) ?_
                                                      refine S_iaddN d_Mo_answer_637 ?_
                                                      refine S_topi (y := nI 256) (by decide) ?_
                                                      refine ST.lift (fun _ _ k => T_iload d_Mo_answer_638 rfl k) ?_
                                                      refine S_iaddN d_Mo_answer_640 ?_
                                                      refine ST.lift (fun _ _ k => T_aload_n (v := .ref 373) d_Mo_answer_641 rfl (Or.inr ⟨_, rfl⟩) k) ?_
                                                      refine S_getfield d_Mo_answer_642 fg_Mo_458 (w373 _) rfl ?_
                                                      refine ST.lift (fun _ _ k => T_iload d_Mo_answer_645 rfl k) ?_
                                                      refine S_iaload d_Mo_answer_647 a445 (vp_in_nI (by omega) (by omega)) (fun z158 => ?_)
                                                      refine S_iastore d_Mo_answer_648 (by decide) a434 (vp_in_nI (by omega) (by omega)) ?_
                                                      refine ST.lift (fun _ _ k => T_aload_n (v := .ref 373) d_Mo_answer_649 rfl (Or.inr ⟨_, rfl⟩) k) ?_
                                                      refine S_getfield d_Mo_answer_650 fg_Mo_428 (w373 _) rfl ?_
                                                      refine ST.lift (fun _ _ k => T_bipush (v := nI 64) d_Mo_answer_653 (by decide) k) ?_
                                                      refine ST.lift (fun _ _ k => T_iload_n d_Mo_answer_655 rfl k) ?_
                                                      refine S_imulN d_Mo_answer_656 ?_
                                                      refine S_topi (y := nI 0) (by decide) ?_
                                                      refine ST.lift (fun _ _ k => T_iload d_Mo_answer_657 rfl k) ?_
                                                      refine S_iaddN d_Mo_answer_659 ?_
                                                      refine ST.lift (fun _ _ k => T_aload_n (v := .ref 373) d_Mo_answer_660 rfl (Or.inr ⟨_, rfl⟩) k) ?_
                                                      refine S_getfield d_Mo_answer_661 fg_Mo_461 (w373 _) rfl ?_
                                                      refine ST.lift (fun _ _ k => T_iload d_Mo_answer_664 rfl k) ?_
                                                      refine S_iaload d_Mo_answer_666 a446 (vp_in_nI (by omega) (by omega)) (fun z159 => ?_)
                                                      refine S_iastore d_Mo_answer_667 (by decide) a436 (vp_in_nI (by omega) (by omega)) ?_
                                                      refine ST.lift (fun _ _ k => T_aload_n (v := .ref 373) d_Mo_answer_668 rfl (Or.inr ⟨_, rfl⟩) k) ?_
                                                      refine S_getfield d_Mo_answer_669 fg_Mo_434 (w373 _) rfl ?_
                                                      refine ST.lift (fun _ _ k => T_bipush (v := nI 64) d_Mo_answer_672 (by decide) k) ?_
                                                      refine ST.lift (fun _ _ k => T_iload_n d_Mo_answer_674 rfl k) ?_
                                                      refine S_imulN d_Mo_answer_675 ?_
                                                      refine S_topi (y := nI 0) (by decide) ?_
                                                      refine ST.lift (fun _ _ k => T_iload d_Mo_answer_676 rfl k) ?_
                                                      refine S_iaddN d_Mo_answer_678 ?_
                                                      refine ST.lift (fun _ _ k => T_aload_n (v := .ref 373) d_Mo_answer_679 rfl (Or.inr ⟨_, rfl⟩) k) ?_
                                                      refine S_getfield d_Mo_answer_680 fg_Mo_464 (w373 _) rfl ?_
                                                      refine ST.lift (fun _ _ k => T_iload d_Mo_answer_683 rfl k) ?_
                                                      refine S_iaload d_Mo_answer_685 a447 (vp_in_nI (by omega) (by omega)) (fun z160 => ?_)
                                                      refine S_iastore d_Mo_answer_686 (by decide) a438 (vp_in_nI (by omega) (by omega)) ?_
                                                      refine S_iincN (a := k144) (b := 1) (L' := [(5, .int (nI (k144 + 1))), (4, .int (nI 0)), (3, .int (nI k16)), (2, .int (nI 0)), (0, .ref 373), (1, .int (nI 0))]) d_Mo_answer_687 (by decide) rfl rfl rfl ?_
                                                      refine ST.lift (fun _ _ k => T_goto (tgt := 621) d_Mo_answer_690 rfl k) ?_
                                                      exact ih146 (64 - (k144 + 1)) (by omega) (k144 + 1)  rfl (by omega)
                                                exact lp147 _ 0  rfl (by omega)
                                              · refine ST.lift (fun _ _ k => T_aload_n (v := .ref 373) d_Mo_answer_452 rfl (Or.inr ⟨_, rfl⟩) k) ?_
                                                refine S_getfield d_Mo_answer_453 fg_Mo_422 (w373 _) rfl ?_
                                                refine ST.lift (fun _ _ k => T_iload d_Mo_answer_456 rfl k) ?_
                                                refine ST.lift (fun _ _ k => T_sipush (v := nI 192) d_Mo_answer_458 (by decide) k) ?_
                                                refine S_iaddN d_Mo_answer_461 ?_
                                                refine S_topi (y := nI 192) (by decide) ?_
                                                refine ST.lift (fun _ _ k => T_iload d_Mo_answer_462 rfl k) ?_
                                                refine S_iaddN d_Mo_answer_464 ?_
                                                refine ST.lift (fun _ _ k => T_aload_n (v := .ref 373) d_Mo_answer_465 rfl (Or.inr ⟨_, rfl⟩) k) ?_
                                                refine S_getfield d_Mo_answer_466 fg_Mo_55 (w373 _) rfl ?_
                                                refine ST.lift (fun _ _ k => T_iload d_Mo_answer_469 rfl k) ?_
                                                refine S_iaload d_Mo_answer_471 a383 (vp_in_nI (by omega) (by omega)) (fun z161 => ?_)
                                                refine S_iastore d_Mo_answer_472 (by decide) a434 (vp_in_nI (by omega) (by omega)) ?_
                                                refine S_iincN (a := k119) (b := 1) (L' := [(5, .int (nI (k119 + 1))), (4, .int (nI 0)), (3, .int (nI k16)), (2, .int (nI 0)), (0, .ref 373), (1, .int (nI 0))]) d_Mo_answer_473 (by decide) rfl rfl rfl ?_
                                                refine ST.lift (fun _ _ k => T_goto (tgt := 445) d_Mo_answer_476 rfl k) ?_
                                                exact ih121 (32 - (k119 + 1)) (by omega) (k119 + 1)  rfl (by omega)
                                          exact lp122 _ 0  rfl (by omega)
                                        · refine ST.lift (fun _ _ k => T_aload_n (v := .ref 373) d_Mo_answer_398 rfl (Or.inr ⟨_, rfl⟩) k) ?_
                                          refine S_getfield d_Mo_answer_399 fg_Mo_422 (w373 _) rfl ?_
                                          refine ST.lift (fun _ _ k => T_iload d_Mo_answer_402 rfl k) ?_
                                          refine ST.lift (fun _ _ k => T_bipush (v := nI 96) d_Mo_answer_404 (by decide) k) ?_
                                          refine S_iaddN d_Mo_answer_406 ?_
                                          refine S_topi (y := nI 96) (by decide) ?_
                                          refine ST.lift (fun _ _ k => T_iload d_Mo_answer_407 rfl k) ?_
                                          refine S_iaddN d_Mo_answer_409 ?_
                                          refine ST.lift (fun _ _ k => T_aload_n (v := .ref 373) d_Mo_answer_410 rfl (Or.inr ⟨_, rfl⟩) k) ?_
                                          refine S_getfield d_Mo_answer_411 fg_Mo_335 (w373 _) rfl ?_
                                          refine ST.lift (fun _ _ k => T_bipush (v := nI 96) d_Mo_answer_414 (by decide) k) ?_
                                          refine ST.lift (fun _ _ k => T_iload d_Mo_answer_416 rfl k) ?_
                                          refine S_iaddN d_Mo_answer_418 ?_
                                          refine S_iaload d_Mo_answer_419 a407 (vp_in_nI (by omega) (by omega)) (fun z162 => ?_)
                                          refine ST.lift (fun _ _ k => T_aload_n (v := .ref 373) d_Mo_answer_420 rfl (Or.inr ⟨_, rfl⟩) k) ?_
                                          refine S_getfield d_Mo_answer_421 fg_Mo_467 (w373 _) rfl ?_
                                          refine ST.lift (fun _ _ k => T_bipush (v := nI 32) d_Mo_answer_424 (by decide) k) ?_
                                          refine ST.lift (fun _ _ k => T_iload d_Mo_answer_426 rfl k) ?_
                                          refine S_iaddN d_Mo_answer_428 ?_
                                          refine S_iaload d_Mo_answer_429 a448 (vp_in_nI (by omega) (by omega)) (fun z163 => ?_)
                                          refine ST.lift (fun _ _ k => T_ixor d_Mo_answer_430 k) (S_anyi fun z164 => ?_)
                                          refine S_iastore d_Mo_answer_431 (by decide) a434 (vp_in_nI (by omega) (by omega)) ?_
                                          refine S_iincN (a := k104) (b := 1) (L' := [(5, .int (nI (k104 + 1))), (4, .int (nI 0)), (3, .int (nI k16)), (2, .int (nI 0)), (0, .ref 373), (1, .int (nI 0))]) d_Mo_answer_432 (by decide) rfl rfl rfl ?_
                                          refine ST.lift (fun _ _ k => T_goto (tgt := 391) d_Mo_answer_435 rfl k) ?_
                                          exact ih106 (96 - (k104 + 1)) (by omega) (k104 + 1)  rfl (by omega)
                                    exact lp107 _ 0  rfl (by omega)
                                  · refine ST.lift (fun _ _ k => T_aload_n (v := .ref 373) d_Mo_answer_354 rfl (Or.inr ⟨_, rfl⟩) k) ?_
                                    refine S_getfield d_Mo_answer_355 fg_Mo_422 (w373 _) rfl ?_
                                    refine ST.lift (fun _ _ k => T_iload d_Mo_answer_358 rfl k) ?_
                                    refine ST.lift (fun _ _ k => T_bipush (v := nI 64) d_Mo_answer_360 (by decide) k) ?_
                                    refine S_iaddN d_Mo_answer_362 ?_
                                    refine S_topi (y := nI 64) (by decide) ?_
                                    refine ST.lift (fun _ _ k => T_iload d_Mo_answer_363 rfl k) ?_
                                    refine S_iaddN d_Mo_answer_365 ?_
                                    refine ST.lift (fun _ _ k => T_aload_n (v := .ref 373) d_Mo_answer_366 rfl (Or.inr ⟨_, rfl⟩) k) ?_
                                    refine S_getfield d_Mo_answer_367 fg_Mo_325 (w373 _) rfl ?_
                                    refine ST.lift (fun _ _ k => T_iload d_Mo_answer_370 rfl k) ?_
                                    refine S_iaload d_Mo_answer_372 a404 (vp_in_nI (by omega) (by omega)) (fun z165 => ?_)
                                    refine ST.lift (fun _ _ k => T_aload_n (v := .ref 373) d_Mo_answer_373 rfl (Or.inr ⟨_, rfl⟩) k) ?_
                                    refine S_getfield d_Mo_answer_374 fg_Mo_467 (w373 _) rfl ?_
                                    refine ST.lift (fun _ _ k => T_iload d_Mo_answer_377 rfl k) ?_
                                    refine S_iaload d_Mo_answer_379 a448 (vp_in_nI (by omega) (by omega)) (fun z166 => ?_)
                                    refine ST.lift (fun _ _ k => T_ixor d_Mo_answer_380 k) (S_anyi fun z167 => ?_)
                                    refine S_iastore d_Mo_answer_381 (by decide) a434 (vp_in_nI (by omega) (by omega)) ?_
                                    refine S_iincN (a := k94) (b := 1) (L' := [(5, .int (nI (k94 + 1))), (4, .int (nI 0)), (3, .int (nI k16)), (2, .int (nI 0)), (0, .ref 373), (1, .int (nI 0))]) d_Mo_answer_382 (by decide) rfl rfl rfl ?_
                                    refine ST.lift (fun _ _ k => T_goto (tgt := 347) d_Mo_answer_385 rfl k) ?_
                                    exact ih96 (32 - (k94 + 1)) (by omega) (k94 + 1)  rfl (by omega)
                              exact lp97 _ 0  rfl (by omega)
                            · refine ST.lift (fun _ _ k => T_aload_n (v := .ref 373) d_Mo_answer_299 rfl (Or.inr ⟨_, rfl⟩) k) ?_
                              refine S_getfield d_Mo_answer_300 fg_Mo_422 (w373 _) rfl ?_
                              refine ST.lift (fun _ _ k => T_iload d_Mo_answer_303 rfl k) ?_
                              refine ST.lift (fun _ _ k => T_bipush (v := nI 32) d_Mo_answer_305 (by decide) k) ?_
                              refine S_iaddN d_Mo_answer_307 ?_
                              refine S_topi (y := nI 32) (by decide) ?_
                              refine ST.lift (fun _ _ k => T_iload d_Mo_answer_308 rfl k) ?_
                              refine S_iaddN d_Mo_answer_310 ?_
                              refine ST.lift (fun _ _ k => T_aload_n (v := .ref 373) d_Mo_answer_311 rfl (Or.inr ⟨_, rfl⟩) k) ?_
                              refine S_getfield d_Mo_answer_312 fg_Mo_55 (w373 _) rfl ?_
                              refine ST.lift (fun _ _ k => T_iload d_Mo_answer_315 rfl k) ?_
                              refine S_iaload d_Mo_answer_317 a383 (vp_in_nI (by omega) (by omega)) (fun z168 => ?_)
                              refine S_iastore d_Mo_answer_318 (by decide) a434 (vp_in_nI (by omega) (by omega)) ?_
                              refine S_iincN (a := k81) (b := 1) (L' := [(5, .int (nI (k81 + 1))), (4, .int (nI 0)), (3, .int (nI k16)), (2, .int (nI 0)), (0, .ref 373), (1, .int (nI 0))]) d_Mo_answer_319 (by decide) rfl rfl rfl ?_
                              refine ST.lift (fun _ _ k => T_goto (tgt := 292) d_Mo_answer_322 rfl k) ?_
                              exact ih83 (32 - (k81 + 1)) (by omega) (k81 + 1)  rfl (by omega)
                        exact lp84 _ 0  rfl (by omega)
                      · refine ST.lift (fun _ _ k => T_aload_n (v := .ref 373) d_Mo_answer_262 rfl (Or.inr ⟨_, rfl⟩) k) ?_
                        refine S_getfield d_Mo_answer_263 fg_Mo_422 (w373 _) rfl ?_
                        refine ST.lift (fun _ _ k => T_iload d_Mo_answer_266 rfl k) ?_
                        refine ST.lift (fun _ _ k => T_iload d_Mo_answer_268 rfl k) ?_
                        refine S_iaddN d_Mo_answer_270 ?_
                        refine ST.lift (fun _ _ k => T_aload_n (v := .ref 373) d_Mo_answer_271 rfl (Or.inr ⟨_, rfl⟩) k) ?_
                        refine S_getfield d_Mo_answer_272 fg_Mo_146 (w373 _) rfl ?_
                        refine ST.lift (fun _ _ k => T_iload d_Mo_answer_275 rfl k) ?_
                        refine S_iaload d_Mo_answer_277 a394 (vp_in_nI (by omega) (by omega)) (fun z169 => ?_)
                        refine S_iastore d_Mo_answer_278 (by decide) a434 (vp_in_nI (by omega) (by omega)) ?_
                        refine S_iincN (a := k68) (b := 1) (L' := [(5, .int (nI (k68 + 1))), (4, .int (nI 0)), (3, .int (nI k16)), (2, .int (nI 0)), (0, .ref 373), (1, .int (nI 0))]) d_Mo_answer_279 (by decide) rfl rfl rfl ?_
                        refine ST.lift (fun _ _ k => T_goto (tgt := 255) d_Mo_answer_282 rfl k) ?_
                        exact ih70 (32 - (k68 + 1)) (by omega) (k68 + 1)  rfl (by omega)
                  exact lp71 _ 0  rfl (by omega)
                refine S_if_ne d_Mo_answer_132 rfl (fun c26 => ?_) (fun c26 => ?_)
                · exact J211_60 u7 hv8 hm9 e10 (nI k17)
                · refine ST.lift (fun _ _ k => T_aload_n (v := .ref 373) d_Mo_answer_135 rfl (Or.inr ⟨_, rfl⟩) k) ?_
                  refine S_virtual (as := []) (rest := []) (b := 373) d_Mo_answer_136 rfl (jw_Mo_chance.jo (by decide)) lm_Mo_304 ji_Mo_chance js_Mo_chance (w373 _) rfl rfl rfl (Nat.le_of_ble_eq_true rfl) (by decide) (by decide) (c_Mo_chance G u7 0 e10 (by omega) hv8) (fun r u170 hq => ?_)
                  obtain ⟨hr, hv171, hm172, es_u170⟩ := hq
                  rw [hr]
                  clear hr r
                  have hm174 := hm9.go hm172 (by intro i hi; simp only [List.mem_cons, List.not_mem_nil, or_false] at hi ⊢ <;> omega)
                  have e175 : u170 66 = nI 0 := (hm172 66 (by decide)).trans e11
                  have e176 : u170 108 = nI 1 := (hm172 108 (by decide)).trans e_u7
                  have e177 : u170 88 = nI k16 := (hm172 88 (by decide)).trans ek16
                  show ST G mi_Mo_answer 139 [(4, .int (nI k17)), (3, .int (nI k16)), (2, .int (nI 0)), (0, .ref 373), (1, .int (nI 0))] [] u170 0 0 _
                  refine ST.lift (fun _ _ k => T_iconst (v := nI 0) d_Mo_answer_139 (by decide) k) ?_
                  refine ST.lift (fun _ _ k => T_istore (L' := [(4, .int (nI 0)), (3, .int (nI k16)), (2, .int (nI 0)), (0, .ref 373), (1, .int (nI 0))]) d_Mo_answer_140 (by decide) rfl k) ?_
                  have lp181 : ∀ (n179 k178 : Nat), 64 - k178 = n179 → 0 ≤ k178 ∧ k178 ≤ 0 + 64 → ST G mi_Mo_answer 142 [(4, .int (nI k178)), (3, .int (nI k16)), (2, .int (nI 0)), (0, .ref 373), (1, .int (nI 0))] [] u170 0 0 Q := by
                    intro n179
                    induction n179 using Nat.strongRecOn with
                    | _ n179 ih180 =>
                      intro k178 h182 h183
                      refine ST.lift (fun _ _ k => T_iload d_Mo_answer_142 rfl k) ?_
                      refine ST.lift (fun _ _ k => T_bipush (v := nI 64) d_Mo_answer_144 (by decide) k) ?_
                      refine S_icmp_geN d_Mo_answer_146 rfl (by omega) (by omega) (fun c184 => ?_) (fun c184 => ?_)
                      · refine ST.lift (fun _ _ k => T_aload_n (v := .ref 373) d_Mo_answer_172 rfl (Or.inr ⟨_, rfl⟩) k) ?_
                        refine S_virtual (as := []) (rest := []) (b := 373) d_Mo_answer_173 rfl (jw_Mo_chanceScalar.jo (by decide)) lm_Mo_548 ji_Mo_chanceScalar js_Mo_chanceScalar (w373 _) rfl rfl rfl (Nat.le_of_ble_eq_true rfl) (by decide) (by decide) (c_Mo_chanceScalar G u170 0 es_u170 (by omega) hv171) (fun r u186 hq => ?_)
                        obtain ⟨hr, hv187, hm188, es_u186⟩ := hq
                        rw [hr]
                        clear hr r
                        have hm190 := hm174.go hm188 (by intro i hi; simp only [List.mem_cons, List.not_mem_nil, or_false] at hi ⊢ <;> omega)
                        have e191 : u186 66 = nI 0 := (hm188 66 (by decide)).trans e175
                        have e192 : u186 108 = nI 1 := (hm188 108 (by decide)).trans e176
                        have e193 : u186 88 = nI k16 := (hm188 88 (by decide)).trans e177
                        show ST G mi_Mo_answer 176 [(4, .int (nI k178)), (3, .int (nI k16)), (2, .int (nI 0)), (0, .ref 373), (1, .int (nI 0))] [] u186 0 0 _
                        refine ST.lift (fun _ _ k => T_aload_n (v := .ref 373) d_Mo_answer_176 rfl (Or.inr ⟨_, rfl⟩) k) ?_
                        refine ST.lift (fun _ _ k => T_aload_n (v := .ref 373) d_Mo_answer_177 rfl (Or.inr ⟨_, rfl⟩) k) ?_
                        refine S_getfield d_Mo_answer_178 fg_Mo_335 (w373 _) rfl ?_
                        refine ST.lift (fun _ _ k => T_iconst (v := nI 0) d_Mo_answer_181 (by decide) k) ?_
                        refine S_virtual (as := [.ref 407, .int (nI 0)]) (rest := []) (b := 373) d_Mo_answer_182 rfl (jw_Mo_publicTo.jo (by decide)) lm_Mo_492 ji_Mo_publicTo js_Mo_publicTo (w373 _) rfl rfl rfl (Nat.le_of_ble_eq_true rfl) (by decide) (by decide) (c_Mo_publicTo G u186 407 192 (by decide) a407 (by omega) 0 (by omega)) (fun r v' hq => ?_)
                        rw [hq.1, hq.2]
                        clear hq r v'
                        show ST G mi_Mo_answer 185 [(4, .int (nI k178)), (3, .int (nI k16)), (2, .int (nI 0)), (0, .ref 373), (1, .int (nI 0))] [] u186 0 0 _
                        refine ST.lift (fun _ _ k => T_bipush (v := nI 96) d_Mo_answer_185 (by decide) k) ?_
                        refine ST.lift (fun _ _ k => T_istore (L' := [(4, .int (nI 96)), (3, .int (nI k16)), (2, .int (nI 0)), (0, .ref 373), (1, .int (nI 0))]) d_Mo_answer_187 (by decide) rfl k) ?_
                        have lp197 : ∀ (n195 k194 : Nat), 192 - k194 = n195 → 96 ≤ k194 ∧ k194 ≤ 96 + 192 → ST G mi_Mo_answer 189 [(4, .int (nI k194)), (3, .int (nI k16)), (2, .int (nI 0)), (0, .ref 373), (1, .int (nI 0))] [] u186 0 0 Q := by
                          intro n195
                          induction n195 using Nat.strongRecOn with
                          | _ n195 ih196 =>
                            intro k194 h198 h199
                            refine ST.lift (fun _ _ k => T_iload d_Mo_answer_189 rfl k) ?_
                            refine ST.lift (fun _ _ k => T_sipush (v := nI 192) d_Mo_answer_191 (by decide) k) ?_
                            refine S_icmp_geN d_Mo_answer_194 rfl (by omega) (by omega) (fun c200 => ?_) (fun c200 => ?_)
                            · exact J211_60 u186 hv187 hm190 es_u186 (nI k194)
                            · refine ST.lift (fun _ _ k => T_aload_n (v := .ref 373) d_Mo_answer_197 rfl (Or.inr ⟨_, rfl⟩) k) ?_
                              refine S_getfield d_Mo_answer_198 fg_Mo_335 (w373 _) rfl ?_
                              refine ST.lift (fun _ _ k => T_iload d_Mo_answer_201 rfl k) ?_
                              refine ST.lift (fun _ _ k => T_iconst (v := nI 0) d_Mo_answer_203 (by decide) k) ?_
                              refine S_iastore d_Mo_answer_204 (by decide) a407 (vp_in_nI (by omega) (by omega)) ?_
                              refine S_iincN (a := k194) (b := 1) (L' := [(4, .int (nI (k194 + 1))), (3, .int (nI k16)), (2, .int (nI 0)), (0, .ref 373), (1, .int (nI 0))]) d_Mo_answer_205 (by decide) rfl rfl rfl ?_
                              refine ST.lift (fun _ _ k => T_goto (tgt := 189) d_Mo_answer_208 rfl k) ?_
                              exact ih196 (192 - (k194 + 1)) (by omega) (k194 + 1)  rfl (by omega)
                        exact lp197 _ 96  rfl (by omega)
                      · refine ST.lift (fun _ _ k => T_aload_n (v := .ref 373) d_Mo_answer_149 rfl (Or.inr ⟨_, rfl⟩) k) ?_
                        refine S_getfield d_Mo_answer_150 fg_Mo_335 (w373 _) rfl ?_
                        refine ST.lift (fun _ _ k => T_bipush (v := nI 32) d_Mo_answer_153 (by decide) k) ?_
                        refine ST.lift (fun _ _ k => T_iload d_Mo_answer_155 rfl k) ?_
                        refine S_iaddN d_Mo_answer_157 ?_
                        refine ST.lift (fun _ _ k => T_aload_n (v := .ref 373) d_Mo_answer_158 rfl (Or.inr ⟨_, rfl⟩) k) ?_
                        refine S_getfield d_Mo_answer_159 fg_Mo_55 (w373 _) rfl ?_
                        refine ST.lift (fun _ _ k => T_iload d_Mo_answer_162 rfl k) ?_
                        refine S_iaload d_Mo_answer_164 a383 (vp_in_nI (by omega) (by omega)) (fun z201 => ?_)
                        refine S_iastore d_Mo_answer_165 (by decide) a407 (vp_in_nI (by omega) (by omega)) ?_
                        refine S_iincN (a := k178) (b := 1) (L' := [(4, .int (nI (k178 + 1))), (3, .int (nI k16)), (2, .int (nI 0)), (0, .ref 373), (1, .int (nI 0))]) d_Mo_answer_166 (by decide) rfl rfl rfl ?_
                        refine ST.lift (fun _ _ k => T_goto (tgt := 142) d_Mo_answer_169 rfl k) ?_
                        exact ih180 (64 - (k178 + 1)) (by omega) (k178 + 1)  rfl (by omega)
                  exact lp181 _ 0  rfl (by omega)
              · refine ST.lift (fun _ _ k => T_aload_n (v := .ref 373) d_Mo_answer_100 rfl (Or.inr ⟨_, rfl⟩) k) ?_
                refine S_getfield d_Mo_answer_101 fg_Mo_335 (w373 _) rfl ?_
                refine ST.lift (fun _ _ k => T_iload d_Mo_answer_104 rfl k) ?_
                refine ST.lift (fun _ _ k => T_aload_n (v := .ref 373) d_Mo_answer_106 rfl (Or.inr ⟨_, rfl⟩) k) ?_
                refine S_getfield d_Mo_answer_107 fg_Mo_332 (w373 _) rfl ?_
                refine ST.lift (fun _ _ k => T_sipush (v := nI 192) d_Mo_answer_110 (by decide) k) ?_
                refine ST.lift (fun _ _ k => T_iload_n d_Mo_answer_113 rfl k) ?_
                refine S_imulN d_Mo_answer_114 ?_
                refine ST.lift (fun _ _ k => T_iload d_Mo_answer_115 rfl k) ?_
                refine S_iaddN d_Mo_answer_117 ?_
                refine S_iaload d_Mo_answer_118 a406 (vp_in_nI (by omega) (by omega)) (fun z202 => ?_)
                refine S_iastore d_Mo_answer_119 (by decide) a407 (vp_in_nI (by omega) (by omega)) ?_
                refine S_iincN (a := k17) (b := 1) (L' := [(4, .int (nI (k17 + 1))), (3, .int (nI k16)), (2, .int (nI 0)), (0, .ref 373), (1, .int (nI 0))]) d_Mo_answer_120 (by decide) rfl rfl rfl ?_
                refine ST.lift (fun _ _ k => T_goto (tgt := 92) d_Mo_answer_123 rfl k) ?_
                exact ih19 (192 - (k17 + 1)) (by omega) (k17 + 1)  rfl (by omega)
          exact lp20 _ 0  rfl (by omega)
        · refine ST.lift (fun _ _ k => T_iconst (v := nI 1) d_Mo_answer_80 (by decide) k) ?_
          exact S_ret d_Mo_answer_81 rfl rfl (by decide) (by decide) (hQ _ _ hv8 hm9 (e10.trans (congrArg nI (by omega))))
    · refine ST.lift (fun _ _ k => T_iconst (v := nI 2) d_Mo_answer_32 (by decide) k) ?_
      exact S_ret d_Mo_answer_33 rfl rfl (by decide) (by decide) (hQ _ _ hv2 hm3 (e4.trans (congrArg nI (by omega))))

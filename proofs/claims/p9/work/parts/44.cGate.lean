set_option maxRecDepth 100000 in
set_option maxHeartbeats 4000000 in
theorem c_PG_isSession (G : GX) (v : Nat → Int32) (s : Nat) (b_s : s < 4) : CS G mi_PG_isSession [.int (nI s)] v (fun r v' => r = some (.int (nI 1)) ∧ v' = v) := by
  refine CS.of (by decide) (Nat.le_of_ble_eq_true rfl) ?_
  generalize hQe : (fun (r : Option Value) (v' : Nat → Int32) => r = some (.int (nI 1)) ∧ v' = v) = Q
  have hQ : Q (some (.int (nI 1))) v := by rw [← hQe]; exact ⟨rfl, rfl⟩
  clear hQe
  show ST G mi_PG_isSession 0 [(0, .int (nI s))] [] v 0 0 Q
  refine ST.lift (fun _ _ k => T_iload_n d_PG_isSession_0 rfl k) ?_
  refine S_if_ltN d_PG_isSession_1 rfl (by omega) (fun c => by first | exact absurd c (by omega) | exact c.elim | exact absurd c (by decide) | exact absurd (by assumption) c | exact absurd c (by assumption)) (fun _ => ?_)
  refine ST.lift (fun _ _ k => T_iload_n d_PG_isSession_4 rfl k) ?_
  refine ST.lift (fun _ _ k => T_iconst (v := nI 4) d_PG_isSession_5 (by decide) k) ?_
  refine S_icmp_geN d_PG_isSession_6 rfl (by omega) (by omega) (fun c => by first | exact absurd c (by omega) | exact c.elim | exact absurd c (by decide) | exact absurd (by assumption) c | exact absurd c (by assumption)) (fun _ => ?_)
  refine ST.lift (fun _ _ k => T_iconst (v := nI 1) d_PG_isSession_9 (by decide) k) ?_
  refine ST.lift (fun _ _ k => T_goto (tgt := 14) d_PG_isSession_10 rfl k) ?_
  refine S_topi (y := nI 1) (congrArg nI (by omega)) ?_
  exact S_ret d_PG_isSession_14 rfl rfl (by decide) (by decide) hQ
set_option maxRecDepth 100000 in
set_option maxHeartbeats 4000000 in
theorem c_PG_isSession_neg (G : GX) (v : Nat → Int32) (x : Int32) (hx : x < 0) : CS G mi_PG_isSession [.int x] v (fun r v' => r = some (.int (nI 0)) ∧ v' = v) := by
  refine CS.of (by decide) (Nat.le_of_ble_eq_true rfl) ?_
  generalize hQe : (fun (r : Option Value) (v' : Nat → Int32) => r = some (.int (nI 0)) ∧ v' = v) = Q
  have hQ : Q (some (.int (nI 0))) v := by rw [← hQe]; exact ⟨rfl, rfl⟩
  clear hQe
  show ST G mi_PG_isSession 0 [(0, .int x)] [] v 0 0 Q
  refine ST.lift (fun _ _ k => T_iload_n d_PG_isSession_0 rfl k) ?_
  refine S_if_lt d_PG_isSession_1 rfl (fun _ => ?_) (fun c => by first | exact absurd c (by omega) | exact c.elim | exact absurd c (by decide) | exact absurd (by assumption) c | exact absurd c (by assumption))
  refine ST.lift (fun _ _ k => T_iconst (v := nI 0) d_PG_isSession_13 (by decide) k) ?_
  refine S_topi (y := nI 0) (congrArg nI (by omega)) ?_
  exact S_ret d_PG_isSession_14 rfl rfl (by decide) (by decide) hQ
set_option maxRecDepth 100000 in
set_option maxHeartbeats 4000000 in
theorem c_PG_isSession_big (G : GX) (v : Nat → Int32) (x : Int32) (h0 : ¬ x < 0) (hx : nI 4 ≤ x) : CS G mi_PG_isSession [.int x] v (fun r v' => r = some (.int (nI 0)) ∧ v' = v) := by
  refine CS.of (by decide) (Nat.le_of_ble_eq_true rfl) ?_
  generalize hQe : (fun (r : Option Value) (v' : Nat → Int32) => r = some (.int (nI 0)) ∧ v' = v) = Q
  have hQ : Q (some (.int (nI 0))) v := by rw [← hQe]; exact ⟨rfl, rfl⟩
  clear hQe
  show ST G mi_PG_isSession 0 [(0, .int x)] [] v 0 0 Q
  refine ST.lift (fun _ _ k => T_iload_n d_PG_isSession_0 rfl k) ?_
  refine S_if_lt d_PG_isSession_1 rfl (fun c => by first | exact absurd c (by omega) | exact c.elim | exact absurd c (by decide) | exact absurd (by assumption) c | exact absurd c (by assumption)) (fun _ => ?_)
  refine ST.lift (fun _ _ k => T_iload_n d_PG_isSession_4 rfl k) ?_
  refine ST.lift (fun _ _ k => T_iconst (v := nI 4) d_PG_isSession_5 (by decide) k) ?_
  refine S_icmp_ge d_PG_isSession_6 rfl (fun _ => ?_) (fun c => by first | exact absurd c (by omega) | exact c.elim | exact absurd c (by decide) | exact absurd (by assumption) c | exact absurd c (by assumption))
  refine ST.lift (fun _ _ k => T_iconst (v := nI 0) d_PG_isSession_13 (by decide) k) ?_
  refine S_topi (y := nI 0) (congrArg nI (by omega)) ?_
  exact S_ret d_PG_isSession_14 rfl rfl (by decide) (by decide) hQ
set_option maxRecDepth 100000 in
set_option maxHeartbeats 4000000 in
theorem c_PG_isUser (G : GX) (v : Nat → Int32) (s : Nat) (b_s : s < 8) : CS G mi_PG_isUser [.int (nI s)] v (fun r v' => r = some (.int (nI 1)) ∧ v' = v) := by
  refine CS.of (by decide) (Nat.le_of_ble_eq_true rfl) ?_
  generalize hQe : (fun (r : Option Value) (v' : Nat → Int32) => r = some (.int (nI 1)) ∧ v' = v) = Q
  have hQ : Q (some (.int (nI 1))) v := by rw [← hQe]; exact ⟨rfl, rfl⟩
  clear hQe
  show ST G mi_PG_isUser 0 [(0, .int (nI s))] [] v 0 0 Q
  refine ST.lift (fun _ _ k => T_iload_n d_PG_isUser_0 rfl k) ?_
  refine S_if_ltN d_PG_isUser_1 rfl (by omega) (fun c => by first | exact absurd c (by omega) | exact c.elim | exact absurd c (by decide) | exact absurd (by assumption) c | exact absurd c (by assumption)) (fun _ => ?_)
  refine ST.lift (fun _ _ k => T_iload_n d_PG_isUser_4 rfl k) ?_
  refine ST.lift (fun _ _ k => T_bipush (v := nI 8) d_PG_isUser_5 (by decide) k) ?_
  refine S_icmp_geN d_PG_isUser_7 rfl (by omega) (by omega) (fun c => by first | exact absurd c (by omega) | exact c.elim | exact absurd c (by decide) | exact absurd (by assumption) c | exact absurd c (by assumption)) (fun _ => ?_)
  refine ST.lift (fun _ _ k => T_iconst (v := nI 1) d_PG_isUser_10 (by decide) k) ?_
  refine ST.lift (fun _ _ k => T_goto (tgt := 15) d_PG_isUser_11 rfl k) ?_
  refine S_topi (y := nI 1) (congrArg nI (by omega)) ?_
  exact S_ret d_PG_isUser_15 rfl rfl (by decide) (by decide) hQ
set_option maxRecDepth 100000 in
set_option maxHeartbeats 4000000 in
theorem c_PG_isUser_neg (G : GX) (v : Nat → Int32) (x : Int32) (hx : x < 0) : CS G mi_PG_isUser [.int x] v (fun r v' => r = some (.int (nI 0)) ∧ v' = v) := by
  refine CS.of (by decide) (Nat.le_of_ble_eq_true rfl) ?_
  generalize hQe : (fun (r : Option Value) (v' : Nat → Int32) => r = some (.int (nI 0)) ∧ v' = v) = Q
  have hQ : Q (some (.int (nI 0))) v := by rw [← hQe]; exact ⟨rfl, rfl⟩
  clear hQe
  show ST G mi_PG_isUser 0 [(0, .int x)] [] v 0 0 Q
  refine ST.lift (fun _ _ k => T_iload_n d_PG_isUser_0 rfl k) ?_
  refine S_if_lt d_PG_isUser_1 rfl (fun _ => ?_) (fun c => by first | exact absurd c (by omega) | exact c.elim | exact absurd c (by decide) | exact absurd (by assumption) c | exact absurd c (by assumption))
  refine ST.lift (fun _ _ k => T_iconst (v := nI 0) d_PG_isUser_14 (by decide) k) ?_
  refine S_topi (y := nI 0) (congrArg nI (by omega)) ?_
  exact S_ret d_PG_isUser_15 rfl rfl (by decide) (by decide) hQ
set_option maxRecDepth 100000 in
set_option maxHeartbeats 4000000 in
theorem c_PG_isUser_big (G : GX) (v : Nat → Int32) (x : Int32) (h0 : ¬ x < 0) (hx : nI 8 ≤ x) : CS G mi_PG_isUser [.int x] v (fun r v' => r = some (.int (nI 0)) ∧ v' = v) := by
  refine CS.of (by decide) (Nat.le_of_ble_eq_true rfl) ?_
  generalize hQe : (fun (r : Option Value) (v' : Nat → Int32) => r = some (.int (nI 0)) ∧ v' = v) = Q
  have hQ : Q (some (.int (nI 0))) v := by rw [← hQe]; exact ⟨rfl, rfl⟩
  clear hQe
  show ST G mi_PG_isUser 0 [(0, .int x)] [] v 0 0 Q
  refine ST.lift (fun _ _ k => T_iload_n d_PG_isUser_0 rfl k) ?_
  refine S_if_lt d_PG_isUser_1 rfl (fun c => by first | exact absurd c (by omega) | exact c.elim | exact absurd c (by decide) | exact absurd (by assumption) c | exact absurd c (by assumption)) (fun _ => ?_)
  refine ST.lift (fun _ _ k => T_iload_n d_PG_isUser_4 rfl k) ?_
  refine ST.lift (fun _ _ k => T_bipush (v := nI 8) d_PG_isUser_5 (by decide) k) ?_
  refine S_icmp_ge d_PG_isUser_7 rfl (fun _ => ?_) (fun c => by first | exact absurd c (by omega) | exact c.elim | exact absurd c (by decide) | exact absurd (by assumption) c | exact absurd c (by assumption))
  refine ST.lift (fun _ _ k => T_iconst (v := nI 0) d_PG_isUser_14 (by decide) k) ?_
  refine S_topi (y := nI 0) (congrArg nI (by omega)) ?_
  exact S_ret d_PG_isUser_15 rfl rfl (by decide) (by decide) hQ
set_option maxRecDepth 100000 in
set_option maxHeartbeats 4000000 in
theorem c_PG_feed_yes (G : GX) (v : Nat → Int32) (x1 : Int32) (x2 : Int32) (x3 : Int32) (x4 : Int32) (x5 : Int32) (t : Nat) (e64 : v 64 = nI t) (ht : t + 20 ≤ 200) (hv : okv v) : CS G mi_PG_feed [.ref 61, .int x1, .int x2, .int x3, .int x4, .int x5] v (fun r v' => r = some (.int (nI 1)) ∧ okv v' ∧ mdf [64] v v' ∧ v' 64 = nI (t + 20)) := by
  refine CS.of (by decide) (Nat.le_of_ble_eq_true rfl) ?_
  generalize hQe : (fun (r : Option Value) (v' : Nat → Int32) => r = some (.int (nI 1)) ∧ okv v' ∧ mdf [64] v v' ∧ v' 64 = nI (t + 20)) = Q
  have hQ : ∀ u, okv u → mdf [64] v u → u 64 = nI (t + 20) → Q (some (.int (nI 1))) u := by rw [← hQe]; exact fun u h1 h2 f0 => ⟨rfl, h1, h2, f0⟩
  clear hQe
  have hm : mdf [64] v v := mdf.rf
  show ST G mi_PG_feed 0 [(0, .ref 61), (1, .int x1), (2, .int x2), (3, .int x3), (4, .int x4), (5, .int x5)] [] v 0 0 Q
  refine ST.lift (fun _ _ k => T_aload_n (v := .ref 61) d_PG_feed_0 rfl (Or.inr ⟨_, rfl⟩) k) ?_
  refine S_getfield d_PG_feed_1 fg_PG_42 (w61 _) rfl ?_
  refine S_getfield d_PG_feed_4 fg_PG_49 (w369 _) rfl ?_
  refine S_topi (y := nI t) (e64) ?_
  refine ST.lift (fun _ _ k => T_bipush (v := nI 20) d_PG_feed_7 (by decide) k) ?_
  refine S_iaddN d_PG_feed_9 ?_
  refine ST.lift (fun _ _ k => T_sipush (v := nI 200) d_PG_feed_10 (by decide) k) ?_
  refine S_icmp_leN d_PG_feed_13 rfl (by omega) (by omega) (fun c1 => ?_) (fun c1 => ?_)
  · refine ST.lift (fun _ _ k => T_aload_n (v := .ref 61) d_PG_feed_18 rfl (Or.inr ⟨_, rfl⟩) k) ?_
    refine S_getfield d_PG_feed_19 fg_PG_42 (w61 _) rfl ?_
    refine ST.lift (fun _ _ k => T_iload_n d_PG_feed_22 rfl k) ?_
    refine ST.lift (fun _ _ k => T_iconst (v := nI 4) d_PG_feed_23 (by decide) k) ?_
    refine S_virtual (as := [.int x1, .int (nI 4)]) (rest := []) (b := 369) d_PG_feed_24 rfl (jw_By_putNumber.jo (by decide)) lm_PG_53 ji_By_putNumber js_By_putNumber (w369 _) rfl rfl rfl (Nat.le_of_ble_eq_true rfl) (by decide) (by decide) (c_By_putNumber_4x G v 369 370 200 64 ⟨w369, a370, by decide, u369_1, by decide, by decide⟩ x1 t e64 (by omega) hv) (fun r u2 hq => ?_)
    obtain ⟨hr, hv3, hm4, fe0_u2⟩ := hq
    rw [hr]
    clear hr r
    have hm5 := hm.go hm4 (by intro i hi; simp only [List.mem_cons, List.not_mem_nil, or_false] at hi ⊢ <;> omega)
    show ST G mi_PG_feed 27 [(0, .ref 61), (1, .int x1), (2, .int x2), (3, .int x3), (4, .int x4), (5, .int x5)] [] u2 0 0 _
    refine ST.lift (fun _ _ k => T_aload_n (v := .ref 61) d_PG_feed_27 rfl (Or.inr ⟨_, rfl⟩) k) ?_
    refine S_getfield d_PG_feed_28 fg_PG_42 (w61 _) rfl ?_
    refine ST.lift (fun _ _ k => T_iload_n d_PG_feed_31 rfl k) ?_
    refine ST.lift (fun _ _ k => T_iconst (v := nI 4) d_PG_feed_32 (by decide) k) ?_
    refine S_virtual (as := [.int x2, .int (nI 4)]) (rest := []) (b := 369) d_PG_feed_33 rfl (jw_By_putNumber.jo (by decide)) lm_PG_53 ji_By_putNumber js_By_putNumber (w369 _) rfl rfl rfl (Nat.le_of_ble_eq_true rfl) (by decide) (by decide) (c_By_putNumber_4x G u2 369 370 200 64 ⟨w369, a370, by decide, u369_1, by decide, by decide⟩ x2 (t + 4) fe0_u2 (by omega) hv3) (fun r u6 hq => ?_)
    obtain ⟨hr, hv7, hm8, fe0_u6⟩ := hq
    rw [hr]
    clear hr r
    have hm9 := hm5.go hm8 (by intro i hi; simp only [List.mem_cons, List.not_mem_nil, or_false] at hi ⊢ <;> omega)
    show ST G mi_PG_feed 36 [(0, .ref 61), (1, .int x1), (2, .int x2), (3, .int x3), (4, .int x4), (5, .int x5)] [] u6 0 0 _
    refine ST.lift (fun _ _ k => T_aload_n (v := .ref 61) d_PG_feed_36 rfl (Or.inr ⟨_, rfl⟩) k) ?_
    refine S_getfield d_PG_feed_37 fg_PG_42 (w61 _) rfl ?_
    refine ST.lift (fun _ _ k => T_iload_n d_PG_feed_40 rfl k) ?_
    refine ST.lift (fun _ _ k => T_iconst (v := nI 4) d_PG_feed_41 (by decide) k) ?_
    refine S_virtual (as := [.int x3, .int (nI 4)]) (rest := []) (b := 369) d_PG_feed_42 rfl (jw_By_putNumber.jo (by decide)) lm_PG_53 ji_By_putNumber js_By_putNumber (w369 _) rfl rfl rfl (Nat.le_of_ble_eq_true rfl) (by decide) (by decide) (c_By_putNumber_4x G u6 369 370 200 64 ⟨w369, a370, by decide, u369_1, by decide, by decide⟩ x3 ((t + 4) + 4) fe0_u6 (by omega) hv7) (fun r u10 hq => ?_)
    obtain ⟨hr, hv11, hm12, fe0_u10⟩ := hq
    rw [hr]
    clear hr r
    have hm13 := hm9.go hm12 (by intro i hi; simp only [List.mem_cons, List.not_mem_nil, or_false] at hi ⊢ <;> omega)
    show ST G mi_PG_feed 45 [(0, .ref 61), (1, .int x1), (2, .int x2), (3, .int x3), (4, .int x4), (5, .int x5)] [] u10 0 0 _
    refine ST.lift (fun _ _ k => T_aload_n (v := .ref 61) d_PG_feed_45 rfl (Or.inr ⟨_, rfl⟩) k) ?_
    refine S_getfield d_PG_feed_46 fg_PG_42 (w61 _) rfl ?_
    refine ST.lift (fun _ _ k => T_iload d_PG_feed_49 rfl k) ?_
    refine ST.lift (fun _ _ k => T_iconst (v := nI 4) d_PG_feed_51 (by decide) k) ?_
    refine S_virtual (as := [.int x4, .int (nI 4)]) (rest := []) (b := 369) d_PG_feed_52 rfl (jw_By_putNumber.jo (by decide)) lm_PG_53 ji_By_putNumber js_By_putNumber (w369 _) rfl rfl rfl (Nat.le_of_ble_eq_true rfl) (by decide) (by decide) (c_By_putNumber_4x G u10 369 370 200 64 ⟨w369, a370, by decide, u369_1, by decide, by decide⟩ x4 (((t + 4) + 4) + 4) fe0_u10 (by omega) hv11) (fun r u14 hq => ?_)
    obtain ⟨hr, hv15, hm16, fe0_u14⟩ := hq
    rw [hr]
    clear hr r
    have hm17 := hm13.go hm16 (by intro i hi; simp only [List.mem_cons, List.not_mem_nil, or_false] at hi ⊢ <;> omega)
    show ST G mi_PG_feed 55 [(0, .ref 61), (1, .int x1), (2, .int x2), (3, .int x3), (4, .int x4), (5, .int x5)] [] u14 0 0 _
    refine ST.lift (fun _ _ k => T_aload_n (v := .ref 61) d_PG_feed_55 rfl (Or.inr ⟨_, rfl⟩) k) ?_
    refine S_getfield d_PG_feed_56 fg_PG_42 (w61 _) rfl ?_
    refine ST.lift (fun _ _ k => T_iload d_PG_feed_59 rfl k) ?_
    refine ST.lift (fun _ _ k => T_iconst (v := nI 4) d_PG_feed_61 (by decide) k) ?_
    refine S_virtual (as := [.int x5, .int (nI 4)]) (rest := []) (b := 369) d_PG_feed_62 rfl (jw_By_putNumber.jo (by decide)) lm_PG_53 ji_By_putNumber js_By_putNumber (w369 _) rfl rfl rfl (Nat.le_of_ble_eq_true rfl) (by decide) (by decide) (c_By_putNumber_4x G u14 369 370 200 64 ⟨w369, a370, by decide, u369_1, by decide, by decide⟩ x5 ((((t + 4) + 4) + 4) + 4) fe0_u14 (by omega) hv15) (fun r u18 hq => ?_)
    obtain ⟨hr, hv19, hm20, fe0_u18⟩ := hq
    rw [hr]
    clear hr r
    have hm21 := hm17.go hm20 (by intro i hi; simp only [List.mem_cons, List.not_mem_nil, or_false] at hi ⊢ <;> omega)
    show ST G mi_PG_feed 65 [(0, .ref 61), (1, .int x1), (2, .int x2), (3, .int x3), (4, .int x4), (5, .int x5)] [] u18 0 0 _
    refine ST.lift (fun _ _ k => T_iconst (v := nI 1) d_PG_feed_65 (by decide) k) ?_
    refine S_topi (y := nI 1) (congrArg nI (by omega)) ?_
    exact S_ret d_PG_feed_66 rfl (nar_z (by omega)) (by decide) (by decide) (hQ _ hv19 hm21 (fe0_u18.trans (congrArg nI (by omega))))
  · refine ST.lift (fun _ _ k => T_iconst (v := nI 0) d_PG_feed_16 (by decide) k) ?_
    exfalso; omega
set_option maxRecDepth 100000 in
set_option maxHeartbeats 4000000 in
theorem c_PG_feed_no (G : GX) (v : Nat → Int32) (x1 : Int32) (x2 : Int32) (x3 : Int32) (x4 : Int32) (x5 : Int32) (t : Nat) (e64 : v 64 = nI t) (ht : 200 < t + 20 ∧ t ≤ 200) (hv : okv v) : CS G mi_PG_feed [.ref 61, .int x1, .int x2, .int x3, .int x4, .int x5] v (fun r v' => r = some (.int (nI 0)) ∧ okv v' ∧ mdf [64] v v' ∧ v' 64 = nI t) := by
  refine CS.of (by decide) (Nat.le_of_ble_eq_true rfl) ?_
  generalize hQe : (fun (r : Option Value) (v' : Nat → Int32) => r = some (.int (nI 0)) ∧ okv v' ∧ mdf [64] v v' ∧ v' 64 = nI t) = Q
  have hQ : ∀ u, okv u → mdf [64] v u → u 64 = nI t → Q (some (.int (nI 0))) u := by rw [← hQe]; exact fun u h1 h2 f0 => ⟨rfl, h1, h2, f0⟩
  clear hQe
  have hm : mdf [64] v v := mdf.rf
  show ST G mi_PG_feed 0 [(0, .ref 61), (1, .int x1), (2, .int x2), (3, .int x3), (4, .int x4), (5, .int x5)] [] v 0 0 Q
  refine ST.lift (fun _ _ k => T_aload_n (v := .ref 61) d_PG_feed_0 rfl (Or.inr ⟨_, rfl⟩) k) ?_
  refine S_getfield d_PG_feed_1 fg_PG_42 (w61 _) rfl ?_
  refine S_getfield d_PG_feed_4 fg_PG_49 (w369 _) rfl ?_
  refine S_topi (y := nI t) (e64) ?_
  refine ST.lift (fun _ _ k => T_bipush (v := nI 20) d_PG_feed_7 (by decide) k) ?_
  refine S_iaddN d_PG_feed_9 ?_
  refine ST.lift (fun _ _ k => T_sipush (v := nI 200) d_PG_feed_10 (by decide) k) ?_
  refine S_icmp_leN d_PG_feed_13 rfl (by omega) (by omega) (fun c1 => ?_) (fun c1 => ?_)
  · refine ST.lift (fun _ _ k => T_aload_n (v := .ref 61) d_PG_feed_18 rfl (Or.inr ⟨_, rfl⟩) k) ?_
    refine S_getfield d_PG_feed_19 fg_PG_42 (w61 _) rfl ?_
    refine ST.lift (fun _ _ k => T_iload_n d_PG_feed_22 rfl k) ?_
    refine ST.lift (fun _ _ k => T_iconst (v := nI 4) d_PG_feed_23 (by decide) k) ?_
    refine S_virtual (as := [.int x1, .int (nI 4)]) (rest := []) (b := 369) d_PG_feed_24 rfl (jw_By_putNumber.jo (by decide)) lm_PG_53 ji_By_putNumber js_By_putNumber (w369 _) rfl rfl rfl (Nat.le_of_ble_eq_true rfl) (by decide) (by decide) (c_By_putNumber_4x G v 369 370 200 64 ⟨w369, a370, by decide, u369_1, by decide, by decide⟩ x1 t e64 (by omega) hv) (fun r u2 hq => ?_)
    obtain ⟨hr, hv3, hm4, fe0_u2⟩ := hq
    rw [hr]
    clear hr r
    have hm5 := hm.go hm4 (by intro i hi; simp only [List.mem_cons, List.not_mem_nil, or_false] at hi ⊢ <;> omega)
    show ST G mi_PG_feed 27 [(0, .ref 61), (1, .int x1), (2, .int x2), (3, .int x3), (4, .int x4), (5, .int x5)] [] u2 0 0 _
    refine ST.lift (fun _ _ k => T_aload_n (v := .ref 61) d_PG_feed_27 rfl (Or.inr ⟨_, rfl⟩) k) ?_
    refine S_getfield d_PG_feed_28 fg_PG_42 (w61 _) rfl ?_
    refine ST.lift (fun _ _ k => T_iload_n d_PG_feed_31 rfl k) ?_
    refine ST.lift (fun _ _ k => T_iconst (v := nI 4) d_PG_feed_32 (by decide) k) ?_
    refine S_virtual (as := [.int x2, .int (nI 4)]) (rest := []) (b := 369) d_PG_feed_33 rfl (jw_By_putNumber.jo (by decide)) lm_PG_53 ji_By_putNumber js_By_putNumber (w369 _) rfl rfl rfl (Nat.le_of_ble_eq_true rfl) (by decide) (by decide) (c_By_putNumber_4x G u2 369 370 200 64 ⟨w369, a370, by decide, u369_1, by decide, by decide⟩ x2 (t + 4) fe0_u2 (by omega) hv3) (fun r u6 hq => ?_)
    obtain ⟨hr, hv7, hm8, fe0_u6⟩ := hq
    rw [hr]
    clear hr r
    have hm9 := hm5.go hm8 (by intro i hi; simp only [List.mem_cons, List.not_mem_nil, or_false] at hi ⊢ <;> omega)
    show ST G mi_PG_feed 36 [(0, .ref 61), (1, .int x1), (2, .int x2), (3, .int x3), (4, .int x4), (5, .int x5)] [] u6 0 0 _
    refine ST.lift (fun _ _ k => T_aload_n (v := .ref 61) d_PG_feed_36 rfl (Or.inr ⟨_, rfl⟩) k) ?_
    refine S_getfield d_PG_feed_37 fg_PG_42 (w61 _) rfl ?_
    refine ST.lift (fun _ _ k => T_iload_n d_PG_feed_40 rfl k) ?_
    refine ST.lift (fun _ _ k => T_iconst (v := nI 4) d_PG_feed_41 (by decide) k) ?_
    refine S_virtual (as := [.int x3, .int (nI 4)]) (rest := []) (b := 369) d_PG_feed_42 rfl (jw_By_putNumber.jo (by decide)) lm_PG_53 ji_By_putNumber js_By_putNumber (w369 _) rfl rfl rfl (Nat.le_of_ble_eq_true rfl) (by decide) (by decide) (c_By_putNumber_4x G u6 369 370 200 64 ⟨w369, a370, by decide, u369_1, by decide, by decide⟩ x3 ((t + 4) + 4) fe0_u6 (by omega) hv7) (fun r u10 hq => ?_)
    obtain ⟨hr, hv11, hm12, fe0_u10⟩ := hq
    rw [hr]
    clear hr r
    have hm13 := hm9.go hm12 (by intro i hi; simp only [List.mem_cons, List.not_mem_nil, or_false] at hi ⊢ <;> omega)
    show ST G mi_PG_feed 45 [(0, .ref 61), (1, .int x1), (2, .int x2), (3, .int x3), (4, .int x4), (5, .int x5)] [] u10 0 0 _
    refine ST.lift (fun _ _ k => T_aload_n (v := .ref 61) d_PG_feed_45 rfl (Or.inr ⟨_, rfl⟩) k) ?_
    refine S_getfield d_PG_feed_46 fg_PG_42 (w61 _) rfl ?_
    refine ST.lift (fun _ _ k => T_iload d_PG_feed_49 rfl k) ?_
    refine ST.lift (fun _ _ k => T_iconst (v := nI 4) d_PG_feed_51 (by decide) k) ?_
    refine S_virtual (as := [.int x4, .int (nI 4)]) (rest := []) (b := 369) d_PG_feed_52 rfl (jw_By_putNumber.jo (by decide)) lm_PG_53 ji_By_putNumber js_By_putNumber (w369 _) rfl rfl rfl (Nat.le_of_ble_eq_true rfl) (by decide) (by decide) (c_By_putNumber_4x G u10 369 370 200 64 ⟨w369, a370, by decide, u369_1, by decide, by decide⟩ x4 (((t + 4) + 4) + 4) fe0_u10 (by omega) hv11) (fun r u14 hq => ?_)
    obtain ⟨hr, hv15, hm16, fe0_u14⟩ := hq
    rw [hr]
    clear hr r
    have hm17 := hm13.go hm16 (by intro i hi; simp only [List.mem_cons, List.not_mem_nil, or_false] at hi ⊢ <;> omega)
    show ST G mi_PG_feed 55 [(0, .ref 61), (1, .int x1), (2, .int x2), (3, .int x3), (4, .int x4), (5, .int x5)] [] u14 0 0 _
    refine ST.lift (fun _ _ k => T_aload_n (v := .ref 61) d_PG_feed_55 rfl (Or.inr ⟨_, rfl⟩) k) ?_
    refine S_getfield d_PG_feed_56 fg_PG_42 (w61 _) rfl ?_
    refine ST.lift (fun _ _ k => T_iload d_PG_feed_59 rfl k) ?_
    refine ST.lift (fun _ _ k => T_iconst (v := nI 4) d_PG_feed_61 (by decide) k) ?_
    refine S_virtual (as := [.int x5, .int (nI 4)]) (rest := []) (b := 369) d_PG_feed_62 rfl (jw_By_putNumber.jo (by decide)) lm_PG_53 ji_By_putNumber js_By_putNumber (w369 _) rfl rfl rfl (Nat.le_of_ble_eq_true rfl) (by decide) (by decide) (c_By_putNumber_4x G u14 369 370 200 64 ⟨w369, a370, by decide, u369_1, by decide, by decide⟩ x5 ((((t + 4) + 4) + 4) + 4) fe0_u14 (by omega) hv15) (fun r u18 hq => ?_)
    obtain ⟨hr, hv19, hm20, fe0_u18⟩ := hq
    rw [hr]
    clear hr r
    have hm21 := hm17.go hm20 (by intro i hi; simp only [List.mem_cons, List.not_mem_nil, or_false] at hi ⊢ <;> omega)
    show ST G mi_PG_feed 65 [(0, .ref 61), (1, .int x1), (2, .int x2), (3, .int x3), (4, .int x4), (5, .int x5)] [] u18 0 0 _
    refine ST.lift (fun _ _ k => T_iconst (v := nI 1) d_PG_feed_65 (by decide) k) ?_
    exfalso; omega
  · refine ST.lift (fun _ _ k => T_iconst (v := nI 0) d_PG_feed_16 (by decide) k) ?_
    refine S_topi (y := nI 0) (congrArg nI (by omega)) ?_
    exact S_ret d_PG_feed_17 rfl (nar_z (by omega)) (by decide) (by decide) (hQ _ hv hm (e64.trans (congrArg nI (by omega))))
set_option maxRecDepth 100000 in
set_option maxHeartbeats 4000000 in
theorem c_PG_end_in (G : GX) (v : Nat → Int32) (n : Nat) (b_n : n ≤ 200) (t : Nat) (e64 : v 64 = nI t) (ht : n ≤ t ∧ t ≤ 200) (hv : okv v) : CS G mi_PG_end [.ref 61, .int (nI n)] v (fun r v' => r = some (.int (nI 1)) ∧ okv v' ∧ mdf [64] v v' ∧ v' 64 = nI n) := by
  refine CS.of (by decide) (Nat.le_of_ble_eq_true rfl) ?_
  generalize hQe : (fun (r : Option Value) (v' : Nat → Int32) => r = some (.int (nI 1)) ∧ okv v' ∧ mdf [64] v v' ∧ v' 64 = nI n) = Q
  have hQ : ∀ u, okv u → mdf [64] v u → u 64 = nI n → Q (some (.int (nI 1))) u := by rw [← hQe]; exact fun u h1 h2 f0 => ⟨rfl, h1, h2, f0⟩
  clear hQe
  have hm : mdf [64] v v := mdf.rf
  show ST G mi_PG_end 0 [(0, .ref 61), (1, .int (nI n))] [] v 0 0 Q
  refine ST.lift (fun _ _ k => T_iload_n d_PG_end_0 rfl k) ?_
  refine S_if_ltN d_PG_end_1 rfl (by omega) (fun c => by first | exact absurd c (by omega) | exact c.elim | exact absurd c (by decide) | exact absurd (by assumption) c | exact absurd c (by assumption)) (fun _ => ?_)
  refine ST.lift (fun _ _ k => T_iload_n d_PG_end_4 rfl k) ?_
  refine ST.lift (fun _ _ k => T_aload_n (v := .ref 61) d_PG_end_5 rfl (Or.inr ⟨_, rfl⟩) k) ?_
  refine S_getfield d_PG_end_6 fg_PG_42 (w61 _) rfl ?_
  refine S_getfield d_PG_end_9 fg_PG_49 (w369 _) rfl ?_
  refine S_topi (y := nI t) (e64) ?_
  refine S_icmp_leN d_PG_end_12 rfl (by omega) (by omega) (fun c1 => ?_) (fun c1 => ?_)
  · refine ST.lift (fun _ _ k => T_aload_n (v := .ref 61) d_PG_end_17 rfl (Or.inr ⟨_, rfl⟩) k) ?_
    refine S_getfield d_PG_end_18 fg_PG_42 (w61 _) rfl ?_
    refine ST.lift (fun _ _ k => T_iload_n d_PG_end_21 rfl k) ?_
    refine S_putfield (v' := va_up v 64 (nI n)) d_PG_end_22 (fp_PG_49 _) (w369 _) (Nat.le_of_ble_eq_true rfl) ⟨rfl, rfl⟩ (u369_1 _ _) ?_
    have hv3 := hv.up (j := 64) (c := 200) (k := n) (by decide) (by omega)
    have hm4 := hm.go (mdf.up (v := v) (j := 64) (x := (nI n))) (by intro i hi; simp only [List.mem_cons, List.not_mem_nil, or_false] at hi ⊢ <;> omega)
    have e_u2 : (va_up v 64 (nI n)) 64 = (nI n) := by simp [va_up]
    generalize va_up v 64 (nI n) = u2 at hv3 hm4 e_u2 ⊢
    refine ST.lift (fun _ _ k => T_iconst (v := nI 1) d_PG_end_25 (by decide) k) ?_
    refine S_topi (y := nI 1) (congrArg nI (by omega)) ?_
    exact S_ret d_PG_end_26 rfl (nar_z (by omega)) (by decide) (by decide) (hQ _ hv3 hm4 (e_u2.trans (congrArg nI (by omega))))
  · refine ST.lift (fun _ _ k => T_iconst (v := nI 0) d_PG_end_15 (by decide) k) ?_
    exfalso; omega
set_option maxRecDepth 100000 in
set_option maxHeartbeats 4000000 in
theorem c_PG_end_big (G : GX) (v : Nat → Int32) (n : Nat) (b_n : n < 2147483648) (t : Nat) (e64 : v 64 = nI t) (ht : t < n ∧ t ≤ 200) (hv : okv v) : CS G mi_PG_end [.ref 61, .int (nI n)] v (fun r v' => r = some (.int (nI 0)) ∧ okv v' ∧ mdf [64] v v' ∧ v' 64 = nI t) := by
  refine CS.of (by decide) (Nat.le_of_ble_eq_true rfl) ?_
  generalize hQe : (fun (r : Option Value) (v' : Nat → Int32) => r = some (.int (nI 0)) ∧ okv v' ∧ mdf [64] v v' ∧ v' 64 = nI t) = Q
  have hQ : ∀ u, okv u → mdf [64] v u → u 64 = nI t → Q (some (.int (nI 0))) u := by rw [← hQe]; exact fun u h1 h2 f0 => ⟨rfl, h1, h2, f0⟩
  clear hQe
  have hm : mdf [64] v v := mdf.rf
  show ST G mi_PG_end 0 [(0, .ref 61), (1, .int (nI n))] [] v 0 0 Q
  refine ST.lift (fun _ _ k => T_iload_n d_PG_end_0 rfl k) ?_
  refine S_if_ltN d_PG_end_1 rfl (by omega) (fun c => by first | exact absurd c (by omega) | exact c.elim | exact absurd c (by decide) | exact absurd (by assumption) c | exact absurd c (by assumption)) (fun _ => ?_)
  refine ST.lift (fun _ _ k => T_iload_n d_PG_end_4 rfl k) ?_
  refine ST.lift (fun _ _ k => T_aload_n (v := .ref 61) d_PG_end_5 rfl (Or.inr ⟨_, rfl⟩) k) ?_
  refine S_getfield d_PG_end_6 fg_PG_42 (w61 _) rfl ?_
  refine S_getfield d_PG_end_9 fg_PG_49 (w369 _) rfl ?_
  refine S_topi (y := nI t) (e64) ?_
  refine S_icmp_leN d_PG_end_12 rfl (by omega) (by omega) (fun c1 => ?_) (fun c1 => ?_)
  · refine ST.lift (fun _ _ k => T_aload_n (v := .ref 61) d_PG_end_17 rfl (Or.inr ⟨_, rfl⟩) k) ?_
    refine S_getfield d_PG_end_18 fg_PG_42 (w61 _) rfl ?_
    refine ST.lift (fun _ _ k => T_iload_n d_PG_end_21 rfl k) ?_
    refine S_putfield (v' := va_up v 64 (nI n)) d_PG_end_22 (fp_PG_49 _) (w369 _) (Nat.le_of_ble_eq_true rfl) ⟨rfl, rfl⟩ (u369_1 _ _) ?_
    have hv3 := hv.up (j := 64) (c := 200) (k := n) (by decide) (by omega)
    have hm4 := hm.go (mdf.up (v := v) (j := 64) (x := (nI n))) (by intro i hi; simp only [List.mem_cons, List.not_mem_nil, or_false] at hi ⊢ <;> omega)
    have e_u2 : (va_up v 64 (nI n)) 64 = (nI n) := by simp [va_up]
    generalize va_up v 64 (nI n) = u2 at hv3 hm4 e_u2 ⊢
    refine ST.lift (fun _ _ k => T_iconst (v := nI 1) d_PG_end_25 (by decide) k) ?_
    exfalso; omega
  · refine ST.lift (fun _ _ k => T_iconst (v := nI 0) d_PG_end_15 (by decide) k) ?_
    refine S_topi (y := nI 0) (congrArg nI (by omega)) ?_
    exact S_ret d_PG_end_16 rfl (nar_z (by omega)) (by decide) (by decide) (hQ _ hv hm (e64.trans (congrArg nI (by omega))))
set_option maxRecDepth 100000 in
set_option maxHeartbeats 4000000 in
theorem c_PG_end_neg (G : GX) (v : Nat → Int32) (x : Int32) (t : Nat) (e64 : v 64 = nI t) (hx : x < 0) (hv : okv v) : CS G mi_PG_end [.ref 61, .int x] v (fun r v' => r = some (.int (nI 0)) ∧ okv v' ∧ mdf [64] v v' ∧ v' 64 = nI t) := by
  refine CS.of (by decide) (Nat.le_of_ble_eq_true rfl) ?_
  generalize hQe : (fun (r : Option Value) (v' : Nat → Int32) => r = some (.int (nI 0)) ∧ okv v' ∧ mdf [64] v v' ∧ v' 64 = nI t) = Q
  have hQ : ∀ u, okv u → mdf [64] v u → u 64 = nI t → Q (some (.int (nI 0))) u := by rw [← hQe]; exact fun u h1 h2 f0 => ⟨rfl, h1, h2, f0⟩
  clear hQe
  have hm : mdf [64] v v := mdf.rf
  show ST G mi_PG_end 0 [(0, .ref 61), (1, .int x)] [] v 0 0 Q
  refine ST.lift (fun _ _ k => T_iload_n d_PG_end_0 rfl k) ?_
  refine S_if_lt d_PG_end_1 rfl (fun _ => ?_) (fun c => by first | exact absurd c (by omega) | exact c.elim | exact absurd c (by decide) | exact absurd (by assumption) c | exact absurd c (by assumption))
  refine ST.lift (fun _ _ k => T_iconst (v := nI 0) d_PG_end_15 (by decide) k) ?_
  refine S_topi (y := nI 0) (congrArg nI (by omega)) ?_
  exact S_ret d_PG_end_16 rfl (nar_z (by omega)) (by decide) (by decide) (hQ _ hv hm (e64.trans (congrArg nI (by omega))))
set_option maxRecDepth 100000 in
set_option maxHeartbeats 4000000 in
theorem c_PG_hash (G : GX) (v : Nat → Int32) (hv : okv v) : CS G mi_PG_hash [.ref 61] v (fun r v' => r = some (.int (nI 64)) ∧ okv v' ∧ mdf [64, 65] v v' ∧ v' 64 = nI 0) := by
  refine CS.of (by decide) (Nat.le_of_ble_eq_true rfl) ?_
  generalize hQe : (fun (r : Option Value) (v' : Nat → Int32) => r = some (.int (nI 64)) ∧ okv v' ∧ mdf [64, 65] v v' ∧ v' 64 = nI 0) = Q
  have hQ : ∀ u, okv u → mdf [64, 65] v u → u 64 = nI 0 → Q (some (.int (nI 64))) u := by rw [← hQe]; exact fun u h1 h2 f0 => ⟨rfl, h1, h2, f0⟩
  clear hQe
  have hm : mdf [64, 65] v v := mdf.rf
  show ST G mi_PG_hash 0 [(0, .ref 61)] [] v 0 0 Q
  refine ST.lift (fun _ _ k => T_aload_n (v := .ref 61) d_PG_hash_0 rfl (Or.inr ⟨_, rfl⟩) k) ?_
  refine S_getfield d_PG_hash_1 fg_PG_12 (w61 _) rfl ?_
  refine S_getfield d_PG_hash_4 fg_PG_57 (w62 _) rfl ?_
  refine ST.lift (fun _ _ k => T_aload_n (v := .ref 61) d_PG_hash_7 rfl (Or.inr ⟨_, rfl⟩) k) ?_
  refine S_getfield d_PG_hash_8 fg_PG_42 (w61 _) rfl ?_
  refine ST.lift (fun _ _ k => T_aload_n (v := .ref 61) d_PG_hash_11 rfl (Or.inr ⟨_, rfl⟩) k) ?_
  refine S_getfield d_PG_hash_12 fg_PG_12 (w61 _) rfl ?_
  refine S_getfield d_PG_hash_15 fg_PG_61 (w62 _) rfl ?_
  refine S_virtual (as := [.ref 369, .ref 199]) (rest := []) (b := 63) d_PG_hash_18 rfl (jw_Dig_run.jo (by decide)) lm_PG_65 ji_Dig_run js_Dig_run (w63 _) rfl rfl rfl (Nat.le_of_ble_eq_true rfl) (by decide) (by decide) (c_Dig_run_63 G v 369 370 200 64 ⟨w369, a370, by decide, u369_1, by decide, by decide⟩ 199 64 (by decide) a199 (by omega) (by omega) hv) (fun r u1 hq => ?_)
  obtain ⟨hr, hv2, hm3⟩ := hq
  rw [hr]
  clear hr r
  have hm4 := hm.go hm3 (by intro i hi; simp only [List.mem_cons, List.not_mem_nil, or_false] at hi ⊢ <;> omega)
  show ST G mi_PG_hash 21 [(0, .ref 61)] [] u1 0 0 _
  refine ST.lift (fun _ _ k => T_aload_n (v := .ref 61) d_PG_hash_21 rfl (Or.inr ⟨_, rfl⟩) k) ?_
  refine S_getfield d_PG_hash_22 fg_PG_42 (w61 _) rfl ?_
  refine S_virtual (as := []) (rest := []) (b := 369) d_PG_hash_25 rfl (jw_By_clear.jo (by decide)) lm_PG_71 ji_By_clear js_By_clear (w369 _) rfl rfl rfl (Nat.le_of_ble_eq_true rfl) (by decide) (by decide) (c_By_clear G u1 369 370 200 64 ⟨w369, a370, by decide, u369_1, by decide, by decide⟩ hv2) (fun r v' hq => ?_)
  rw [hq.1, hq.2]
  clear hq r v'
  show ST G mi_PG_hash 28 [(0, .ref 61)] [] (va_up u1 64 (nI 0)) 0 0 _
  have hv6 := hv2.up (j := 64) (c := 200) (k := 0) (by decide) (by omega)
  have hm7 := hm4.go (mdf.up (v := u1) (j := 64) (x := (nI 0))) (by intro i hi; simp only [List.mem_cons, List.not_mem_nil, or_false] at hi ⊢ <;> omega)
  have e_u5 : (va_up u1 64 (nI 0)) 64 = (nI 0) := by simp [va_up]
  generalize va_up u1 64 (nI 0) = u5 at hv6 hm7 e_u5 ⊢
  refine ST.lift (fun _ _ k => T_aload_n (v := .ref 61) d_PG_hash_28 rfl (Or.inr ⟨_, rfl⟩) k) ?_
  refine S_getfield d_PG_hash_29 fg_PG_46 (w61 _) rfl ?_
  refine S_virtual (as := []) (rest := []) (b := 371) d_PG_hash_32 rfl (jw_By_clear.jo (by decide)) lm_PG_71 ji_By_clear js_By_clear (w371 _) rfl rfl rfl (Nat.le_of_ble_eq_true rfl) (by decide) (by decide) (c_By_clear G u5 371 372 64 65 ⟨w371, a372, by decide, u371_1, by decide, by decide⟩ hv6) (fun r v' hq => ?_)
  rw [hq.1, hq.2]
  clear hq r v'
  show ST G mi_PG_hash 35 [(0, .ref 61)] [] (va_up u5 65 (nI 0)) 0 0 _
  have hv9 := hv6.up (j := 65) (c := 64) (k := 0) (by decide) (by omega)
  have hm10 := hm7.go (mdf.up (v := u5) (j := 65) (x := (nI 0))) (by intro i hi; simp only [List.mem_cons, List.not_mem_nil, or_false] at hi ⊢ <;> omega)
  have e_u8 : (va_up u5 65 (nI 0)) 65 = (nI 0) := by simp [va_up]
  have e11 : (va_up u5 65 (nI 0)) 64 = nI 0 := by simp only [va_up]; exact e_u5
  generalize va_up u5 65 (nI 0) = u8 at hv9 hm10 e_u8 e11 ⊢
  refine ST.lift (fun _ _ k => T_aload_n (v := .ref 61) d_PG_hash_35 rfl (Or.inr ⟨_, rfl⟩) k) ?_
  refine S_getfield d_PG_hash_36 fg_PG_46 (w61 _) rfl ?_
  refine ST.lift (fun _ _ k => T_aload_n (v := .ref 61) d_PG_hash_39 rfl (Or.inr ⟨_, rfl⟩) k) ?_
  refine S_getfield d_PG_hash_40 fg_PG_12 (w61 _) rfl ?_
  refine S_getfield d_PG_hash_43 fg_PG_61 (w62 _) rfl ?_
  refine ST.lift (fun _ _ k => T_iconst (v := nI 0) d_PG_hash_46 (by decide) k) ?_
  refine ST.lift (fun _ _ k => T_bipush (v := nI 64) d_PG_hash_47 (by decide) k) ?_
  refine S_virtual (as := [.ref 199, .int (nI 0), .int (nI 64)]) (rest := []) (b := 371) d_PG_hash_49 rfl (jw_By_put.jo (by decide)) lm_PG_74 ji_By_put js_By_put (w371 _) rfl rfl rfl (Nat.le_of_ble_eq_true rfl) (by decide) (by decide) (c_By_put_x G u8 371 372 64 65 ⟨w371, a372, by decide, u371_1, by decide, by decide⟩ 199 64 (by decide) a199 (by omega) 0 (by omega) 64 (by omega) 0 e_u8 (by omega) (by omega) hv9) (fun r u12 hq => ?_)
  obtain ⟨hr, hv13, hm14, fe0_u12⟩ := hq
  rw [hr]
  clear hr r
  have hm15 := hm10.go hm14 (by intro i hi; simp only [List.mem_cons, List.not_mem_nil, or_false] at hi ⊢ <;> omega)
  have e16 : u12 64 = nI 0 := (hm14 64 (by decide)).trans e11
  show ST G mi_PG_hash 52 [(0, .ref 61)] [] u12 0 0 _
  refine ST.lift (fun _ _ k => T_aload_n (v := .ref 61) d_PG_hash_52 rfl (Or.inr ⟨_, rfl⟩) k) ?_
  refine S_getfield d_PG_hash_53 fg_PG_46 (w61 _) rfl ?_
  refine S_getfield d_PG_hash_56 fg_PG_49 (w371 _) rfl ?_
  refine S_topi (y := nI 64) (fe0_u12) ?_
  refine S_topi (y := nI 64) (congrArg nI (by omega)) ?_
  exact S_ret d_PG_hash_59 rfl rfl (by decide) (by decide) (hQ _ hv13 hm15 (e16.trans (congrArg nI (by omega))))
set_option maxRecDepth 100000 in
set_option maxHeartbeats 4000000 in
theorem c_PG_showPoint (G : GX) (v : Nat → Int32) (hv : okv v) : CS G mi_PG_showPoint [.ref 61] v (fun r v' => r = none ∧ okv v' ∧ mdf [65] v v' ∧ v' 65 = nI 32) := by
  refine CS.of (by decide) (Nat.le_of_ble_eq_true rfl) ?_
  generalize hQe : (fun (r : Option Value) (v' : Nat → Int32) => r = none ∧ okv v' ∧ mdf [65] v v' ∧ v' 65 = nI 32) = Q
  have hQ : ∀ u, okv u → mdf [65] v u → u 65 = nI 32 → Q none u := by rw [← hQe]; exact fun u h1 h2 f0 => ⟨rfl, h1, h2, f0⟩
  clear hQe
  have hm : mdf [65] v v := mdf.rf
  show ST G mi_PG_showPoint 0 [(0, .ref 61)] [] v 0 0 Q
  refine ST.lift (fun _ _ k => T_aload_n (v := .ref 61) d_PG_showPoint_0 rfl (Or.inr ⟨_, rfl⟩) k) ?_
  refine S_getfield d_PG_showPoint_1 fg_PG_46 (w61 _) rfl ?_
  refine S_virtual (as := []) (rest := []) (b := 371) d_PG_showPoint_4 rfl (jw_By_clear.jo (by decide)) lm_PG_71 ji_By_clear js_By_clear (w371 _) rfl rfl rfl (Nat.le_of_ble_eq_true rfl) (by decide) (by decide) (c_By_clear G v 371 372 64 65 ⟨w371, a372, by decide, u371_1, by decide, by decide⟩ hv) (fun r v' hq => ?_)
  rw [hq.1, hq.2]
  clear hq r v'
  show ST G mi_PG_showPoint 7 [(0, .ref 61)] [] (va_up v 65 (nI 0)) 0 0 _
  have hv2 := hv.up (j := 65) (c := 64) (k := 0) (by decide) (by omega)
  have hm3 := hm.go (mdf.up (v := v) (j := 65) (x := (nI 0))) (by intro i hi; simp only [List.mem_cons, List.not_mem_nil, or_false] at hi ⊢ <;> omega)
  have e_u1 : (va_up v 65 (nI 0)) 65 = (nI 0) := by simp [va_up]
  generalize va_up v 65 (nI 0) = u1 at hv2 hm3 e_u1 ⊢
  refine ST.lift (fun _ _ k => T_aload_n (v := .ref 61) d_PG_showPoint_7 rfl (Or.inr ⟨_, rfl⟩) k) ?_
  refine S_getfield d_PG_showPoint_8 fg_PG_12 (w61 _) rfl ?_
  refine S_getfield d_PG_showPoint_11 fg_PG_89 (w62 _) rfl ?_
  refine ST.lift (fun _ _ k => T_aload_n (v := .ref 61) d_PG_showPoint_14 rfl (Or.inr ⟨_, rfl⟩) k) ?_
  refine S_getfield d_PG_showPoint_15 fg_PG_12 (w61 _) rfl ?_
  refine S_getfield d_PG_showPoint_18 fg_PG_78 (w62 _) rfl ?_
  refine ST.lift (fun _ _ k => T_aload_n (v := .ref 61) d_PG_showPoint_21 rfl (Or.inr ⟨_, rfl⟩) k) ?_
  refine S_getfield d_PG_showPoint_22 fg_PG_46 (w61 _) rfl ?_
  refine S_virtual (as := [.ref 188, .ref 371]) (rest := []) (b := 77) d_PG_showPoint_25 rfl (jw_Cu_code.jo (by decide)) lm_PG_165 ji_Cu_code js_Cu_code (w77 _) rfl rfl rfl (Nat.le_of_ble_eq_true rfl) (by decide) (by decide) (c_Cu_code_x G u1 188 189 190 191 192 ⟨w188, a189, a190, a191, a192, by decide, by decide, by decide, by decide⟩ 371 372 64 65 ⟨w371, a372, by decide, u371_1, by decide, by decide⟩ 0 e_u1 (by omega) hv2) (fun r u4 hq => ?_)
  obtain ⟨hr, hv5, hm6, fe0_u4⟩ := hq
  rw [hr]
  clear hr r
  have hm7 := hm3.go hm6 (by intro i hi; simp only [List.mem_cons, List.not_mem_nil, or_false] at hi ⊢ <;> omega)
  show ST G mi_PG_showPoint 28 [(0, .ref 61)] [] u4 0 0 _
  exact S_vret d_PG_showPoint_28 rfl (by decide) (by decide) (hQ _ hv5 hm7 (fe0_u4.trans (congrArg nI (by omega))))
set_option maxRecDepth 100000 in
set_option maxHeartbeats 4000000 in
theorem c_PG_group (G : GX) (v : Nat → Int32) (hv : okv v) : CS G mi_PG_group [.ref 61] v (fun r v' => r = some (.int (nI 32)) ∧ okv v' ∧ mdf [6, 64, 65] v v' ∧ v' 64 = nI 0) := by
  refine CS.of (by decide) (Nat.le_of_ble_eq_true rfl) ?_
  generalize hQe : (fun (r : Option Value) (v' : Nat → Int32) => r = some (.int (nI 32)) ∧ okv v' ∧ mdf [6, 64, 65] v v' ∧ v' 64 = nI 0) = Q
  have hQ : ∀ u, okv u → mdf [6, 64, 65] v u → u 64 = nI 0 → Q (some (.int (nI 32))) u := by rw [← hQe]; exact fun u h1 h2 f0 => ⟨rfl, h1, h2, f0⟩
  clear hQe
  have hm : mdf [6, 64, 65] v v := mdf.rf
  show ST G mi_PG_group 0 [(0, .ref 61)] [] v 0 0 Q
  refine ST.lift (fun _ _ k => T_aload_n (v := .ref 61) d_PG_group_0 rfl (Or.inr ⟨_, rfl⟩) k) ?_
  refine S_getfield d_PG_group_1 fg_PG_12 (w61 _) rfl ?_
  refine ST.lift (fun _ _ k => T_aload_n (v := .ref 61) d_PG_group_4 rfl (Or.inr ⟨_, rfl⟩) k) ?_
  refine S_getfield d_PG_group_5 fg_PG_42 (w61 _) rfl ?_
  refine ST.lift (fun _ _ k => T_aload_n (v := .ref 61) d_PG_group_8 rfl (Or.inr ⟨_, rfl⟩) k) ?_
  refine S_getfield d_PG_group_9 fg_PG_12 (w61 _) rfl ?_
  refine S_getfield d_PG_group_12 fg_PG_78 (w62 _) rfl ?_
  refine S_virtual (as := [.ref 369, .ref 188]) (rest := []) (b := 62) d_PG_group_15 rfl (jw_Kit_groupOf.jo (by decide)) lm_PG_82 ji_Kit_groupOf js_Kit_groupOf (w62 _) rfl rfl rfl (Nat.le_of_ble_eq_true rfl) (by decide) (by decide) (c_Kit_groupOf G v 369 370 200 64 ⟨w369, a370, by decide, u369_1, by decide, by decide⟩ 188 189 190 191 192 ⟨w188, a189, a190, a191, a192, by decide, by decide, by decide, by decide⟩ hv) (fun r u1 hq => ?_)
  obtain ⟨hr, hv2, hm3⟩ := hq
  rw [hr]
  clear hr r
  have hm4 := hm.go hm3 (by intro i hi; simp only [List.mem_cons, List.not_mem_nil, or_false] at hi ⊢ <;> omega)
  show ST G mi_PG_group 18 [(0, .ref 61)] [] u1 0 0 _
  refine ST.lift (fun _ _ k => T_aload_n (v := .ref 61) d_PG_group_18 rfl (Or.inr ⟨_, rfl⟩) k) ?_
  refine S_getfield d_PG_group_19 fg_PG_42 (w61 _) rfl ?_
  refine S_virtual (as := []) (rest := []) (b := 369) d_PG_group_22 rfl (jw_By_clear.jo (by decide)) lm_PG_71 ji_By_clear js_By_clear (w369 _) rfl rfl rfl (Nat.le_of_ble_eq_true rfl) (by decide) (by decide) (c_By_clear G u1 369 370 200 64 ⟨w369, a370, by decide, u369_1, by decide, by decide⟩ hv2) (fun r v' hq => ?_)
  rw [hq.1, hq.2]
  clear hq r v'
  show ST G mi_PG_group 25 [(0, .ref 61)] [] (va_up u1 64 (nI 0)) 0 0 _
  have hv6 := hv2.up (j := 64) (c := 200) (k := 0) (by decide) (by omega)
  have hm7 := hm4.go (mdf.up (v := u1) (j := 64) (x := (nI 0))) (by intro i hi; simp only [List.mem_cons, List.not_mem_nil, or_false] at hi ⊢ <;> omega)
  have e_u5 : (va_up u1 64 (nI 0)) 64 = (nI 0) := by simp [va_up]
  generalize va_up u1 64 (nI 0) = u5 at hv6 hm7 e_u5 ⊢
  refine ST.lift (fun _ _ k => T_aload_n (v := .ref 61) d_PG_group_25 rfl (Or.inr ⟨_, rfl⟩) k) ?_
  refine S_virtual (as := []) (rest := []) (b := 61) d_PG_group_26 rfl (jw_PG_showPoint.jo (by decide)) lm_PG_86 ji_PG_showPoint js_PG_showPoint (w61 _) rfl rfl rfl (Nat.le_of_ble_eq_true rfl) (by decide) (by decide) (c_PG_showPoint G u5 hv6) (fun r u8 hq => ?_)
  obtain ⟨hr, hv9, hm10, fe0_u8⟩ := hq
  rw [hr]
  clear hr r
  have hm11 := hm7.go hm10 (by intro i hi; simp only [List.mem_cons, List.not_mem_nil, or_false] at hi ⊢ <;> omega)
  have e12 : u8 64 = nI 0 := (hm10 64 (by decide)).trans e_u5
  show ST G mi_PG_group 29 [(0, .ref 61)] [] u8 0 0 _
  refine ST.lift (fun _ _ k => T_aload_n (v := .ref 61) d_PG_group_29 rfl (Or.inr ⟨_, rfl⟩) k) ?_
  refine S_getfield d_PG_group_30 fg_PG_46 (w61 _) rfl ?_
  refine S_getfield d_PG_group_33 fg_PG_49 (w371 _) rfl ?_
  refine S_topi (y := nI 32) (fe0_u8) ?_
  refine S_topi (y := nI 32) (congrArg nI (by omega)) ?_
  exact S_ret d_PG_group_36 rfl rfl (by decide) (by decide) (hQ _ hv9 hm11 (e12.trans (congrArg nI (by omega))))
set_option maxRecDepth 100000 in
set_option maxHeartbeats 4000000 in
theorem c_PG_times (G : GX) (v : Nat → Int32) (hv : okv v) : CS G mi_PG_times [.ref 61] v (fun r v' => ∃ z : Int32, r = some (.int z) ∧ okv v' ∧ mdf [4, 64, 65] v v' ∧ v' 64 = nI 0) := by
  refine CS.of (by decide) (Nat.le_of_ble_eq_true rfl) ?_
  generalize hQe : (fun (r : Option Value) (v' : Nat → Int32) => ∃ z : Int32, r = some (.int z) ∧ okv v' ∧ mdf [4, 64, 65] v v' ∧ v' 64 = nI 0) = Q
  have hQ : ∀ (z : Int32) (u : Nat → Int32), okv u → mdf [4, 64, 65] v u → u 64 = nI 0 → Q (some (.int z)) u := by rw [← hQe]; exact fun z u h1 h2 f0 => ⟨z, rfl, h1, h2, f0⟩
  clear hQe
  have hm : mdf [4, 64, 65] v v := mdf.rf
  show ST G mi_PG_times 0 [(0, .ref 61)] [] v 0 0 Q
  refine ST.lift (fun _ _ k => T_aload_n (v := .ref 61) d_PG_times_0 rfl (Or.inr ⟨_, rfl⟩) k) ?_
  refine S_getfield d_PG_times_1 fg_PG_42 (w61 _) rfl ?_
  obtain ⟨k1, hk1, ek1⟩ := hv.get (j := 64) (c := 200) (by decide)
  refine S_getfield d_PG_times_4 fg_PG_49 (w369 _) rfl ?_
  refine S_topi (y := nI k1) (ek1) ?_
  refine ST.lift (fun _ _ k => T_bipush (v := nI 64) d_PG_times_7 (by decide) k) ?_
  have J46_11 : ∀ (u12 : Nat → Int32) (hv_u12 : okv u12) (hm_u12 : mdf [4, 64, 65] v u12) (z10 : Nat) (hz10 : z10 ≤ 1), ST G mi_PG_times 46 [(0, .ref 61)] [.int (nI z10)] u12 0 0 Q := by
    intro u12 hv_u12 hm_u12 z10 hz10
    refine ST.lift (fun _ _ k => T_istore_n (L' := [(1, .int (nI z10)), (0, .ref 61)]) d_PG_times_46 (by decide) rfl k) ?_
    refine ST.lift (fun _ _ k => T_iload_n d_PG_times_47 rfl k) ?_
    have J112_18 : ∀ (u19 : Nat → Int32) (hv_u19 : okv u19) (hm_u19 : mdf [4, 64, 65] v u19) , ST G mi_PG_times 112 [(1, .int (nI z10)), (0, .ref 61)] [] u19 0 0 Q := by
      intro u19 hv_u19 hm_u19 
      refine ST.lift (fun _ _ k => T_aload_n (v := .ref 61) d_PG_times_112 rfl (Or.inr ⟨_, rfl⟩) k) ?_
      refine S_getfield d_PG_times_113 fg_PG_42 (w61 _) rfl ?_
      refine S_virtual (as := []) (rest := []) (b := 369) d_PG_times_116 rfl (jw_By_clear.jo (by decide)) lm_PG_71 ji_By_clear js_By_clear (w369 _) rfl rfl rfl (Nat.le_of_ble_eq_true rfl) (by decide) (by decide) (c_By_clear G u19 369 370 200 64 ⟨w369, a370, by decide, u369_1, by decide, by decide⟩ hv_u19) (fun r v' hq => ?_)
      rw [hq.1, hq.2]
      clear hq r v'
      show ST G mi_PG_times 119 [(1, .int (nI z10)), (0, .ref 61)] [] (va_up u19 64 (nI 0)) 0 0 _
      have hv21 := hv_u19.up (j := 64) (c := 200) (k := 0) (by decide) (by omega)
      have hm22 := hm_u19.go (mdf.up (v := u19) (j := 64) (x := (nI 0))) (by intro i hi; simp only [List.mem_cons, List.not_mem_nil, or_false] at hi ⊢ <;> omega)
      have e_u20 : (va_up u19 64 (nI 0)) 64 = (nI 0) := by simp [va_up]
      generalize va_up u19 64 (nI 0) = u20 at hv21 hm22 e_u20 ⊢
      refine ST.lift (fun _ _ k => T_iload_n d_PG_times_119 rfl k) ?_
      refine S_if_eqN d_PG_times_120 rfl (by omega) (fun c23 => ?_) (fun c23 => ?_)
      · refine ST.lift (fun _ _ k => T_iconst (v := -1) d_PG_times_133 (by decide) k) ?_
        exact S_ret d_PG_times_134 rfl rfl (by decide) (by decide) (hQ _ _ hv21 hm22 (e_u20.trans (congrArg nI (by omega))))
      · refine ST.lift (fun _ _ k => T_aload_n (v := .ref 61) d_PG_times_123 rfl (Or.inr ⟨_, rfl⟩) k) ?_
        refine S_getfield d_PG_times_124 fg_PG_46 (w61 _) rfl ?_
        obtain ⟨k24, hk24, ek24⟩ := hv21.get (j := 65) (c := 64) (by decide)
        refine S_getfield d_PG_times_127 fg_PG_49 (w371 _) rfl ?_
        refine S_topi (y := nI k24) (ek24) ?_
        refine ST.lift (fun _ _ k => T_goto (tgt := 134) d_PG_times_130 rfl k) ?_
        exact S_ret d_PG_times_134 rfl rfl (by decide) (by decide) (hQ _ _ hv21 hm22 (e_u20.trans (congrArg nI (by omega))))
    refine S_if_eqN d_PG_times_48 rfl (by omega) (fun c13 => ?_) (fun c13 => ?_)
    · exact J112_18 u12 hv_u12 hm_u12
    · refine ST.lift (fun _ _ k => T_aload_n (v := .ref 61) d_PG_times_51 rfl (Or.inr ⟨_, rfl⟩) k) ?_
      refine S_getfield d_PG_times_52 fg_PG_12 (w61 _) rfl ?_
      refine S_getfield d_PG_times_55 fg_PG_102 (w62 _) rfl ?_
      refine ST.lift (fun _ _ k => T_aload_n (v := .ref 61) d_PG_times_58 rfl (Or.inr ⟨_, rfl⟩) k) ?_
      refine S_getfield d_PG_times_59 fg_PG_42 (w61 _) rfl ?_
      refine S_getfield d_PG_times_62 fg_PG_93 (w369 _) rfl ?_
      refine ST.lift (fun _ _ k => T_bipush (v := nI 32) d_PG_times_65 (by decide) k) ?_
      refine ST.lift (fun _ _ k => T_aload_n (v := .ref 61) d_PG_times_67 rfl (Or.inr ⟨_, rfl⟩) k) ?_
      refine S_getfield d_PG_times_68 fg_PG_12 (w61 _) rfl ?_
      refine S_getfield d_PG_times_71 fg_PG_106 (w62 _) rfl ?_
      refine S_virtual (as := [.ref 370, .int (nI 32), .ref 198]) (rest := []) (b := 183) d_PG_times_74 rfl (jw_Sc_reduce.jo (by decide)) lm_PG_109 ji_Sc_reduce js_Sc_reduce (w183 _) rfl rfl rfl (Nat.le_of_ble_eq_true rfl) (by decide) (by decide) (c_Sc_reduce G u12 370 200 (by decide) a370 (by omega) 32 (by omega) 198 32 (by decide) a198 (by omega) (by omega)) (fun r v' hq => ?_)
      rw [hq.1, hq.2]
      clear hq r v'
      show ST G mi_PG_times 77 [(1, .int (nI z10)), (0, .ref 61)] [] u12 0 0 _
      refine ST.lift (fun _ _ k => T_aload_n (v := .ref 61) d_PG_times_77 rfl (Or.inr ⟨_, rfl⟩) k) ?_
      refine S_getfield d_PG_times_78 fg_PG_12 (w61 _) rfl ?_
      refine S_getfield d_PG_times_81 fg_PG_89 (w62 _) rfl ?_
      refine ST.lift (fun _ _ k => T_aload_n (v := .ref 61) d_PG_times_84 rfl (Or.inr ⟨_, rfl⟩) k) ?_
      refine S_getfield d_PG_times_85 fg_PG_12 (w61 _) rfl ?_
      refine S_getfield d_PG_times_88 fg_PG_78 (w62 _) rfl ?_
      refine ST.lift (fun _ _ k => T_aload_n (v := .ref 61) d_PG_times_91 rfl (Or.inr ⟨_, rfl⟩) k) ?_
      refine S_getfield d_PG_times_92 fg_PG_12 (w61 _) rfl ?_
      refine S_getfield d_PG_times_95 fg_PG_106 (w62 _) rfl ?_
      refine ST.lift (fun _ _ k => T_aload_n (v := .ref 61) d_PG_times_98 rfl (Or.inr ⟨_, rfl⟩) k) ?_
      refine S_getfield d_PG_times_99 fg_PG_12 (w61 _) rfl ?_
      refine S_getfield d_PG_times_102 fg_PG_78 (w62 _) rfl ?_
      refine S_virtual (as := [.ref 188, .ref 198, .ref 188]) (rest := []) (b := 77) d_PG_times_105 rfl (jw_Cu_multiply.jo (by decide)) lm_PG_115 ji_Cu_multiply js_Cu_multiply (w77 _) rfl rfl rfl (Nat.le_of_ble_eq_true rfl) (by decide) (by decide) (c_Cu_multiply G u12 188 189 190 191 192 ⟨w188, a189, a190, a191, a192, by decide, by decide, by decide, by decide⟩ 198 32 (by decide) a198 (by omega) 188 189 190 191 192 ⟨w188, a189, a190, a191, a192, by decide, by decide, by decide, by decide⟩ (by omega)) (fun r v' hq => ?_)
      rw [hq.1, hq.2]
      clear hq r v'
      show ST G mi_PG_times 108 [(1, .int (nI z10)), (0, .ref 61)] [] u12 0 0 _
      refine ST.lift (fun _ _ k => T_aload_n (v := .ref 61) d_PG_times_108 rfl (Or.inr ⟨_, rfl⟩) k) ?_
      refine S_virtual (as := []) (rest := []) (b := 61) d_PG_times_109 rfl (jw_PG_showPoint.jo (by decide)) lm_PG_86 ji_PG_showPoint js_PG_showPoint (w61 _) rfl rfl rfl (Nat.le_of_ble_eq_true rfl) (by decide) (by decide) (c_PG_showPoint G u12 hv_u12) (fun r u25 hq => ?_)
      obtain ⟨hr, hv26, hm27, fe0_u25⟩ := hq
      rw [hr]
      clear hr r
      have hm28 := hm_u12.go hm27 (by intro i hi; simp only [List.mem_cons, List.not_mem_nil, or_false] at hi ⊢ <;> omega)
      show ST G mi_PG_times 112 [(1, .int (nI z10)), (0, .ref 61)] [] u25 0 0 _
      exact J112_18 u25 hv26 hm28
  refine S_icmp_ltN d_PG_times_9 rfl (by omega) (by omega) (fun c2 => ?_) (fun c2 => ?_)
  · refine ST.lift (fun _ _ k => T_iconst (v := nI 0) d_PG_times_45 (by decide) k) ?_
    exact J46_11 v hv hm 0 (by omega)
  · refine ST.lift (fun _ _ k => T_aload_n (v := .ref 61) d_PG_times_12 rfl (Or.inr ⟨_, rfl⟩) k) ?_
    refine S_getfield d_PG_times_13 fg_PG_12 (w61 _) rfl ?_
    refine S_getfield d_PG_times_16 fg_PG_89 (w62 _) rfl ?_
    refine ST.lift (fun _ _ k => T_aload_n (v := .ref 61) d_PG_times_19 rfl (Or.inr ⟨_, rfl⟩) k) ?_
    refine S_getfield d_PG_times_20 fg_PG_42 (w61 _) rfl ?_
    refine S_getfield d_PG_times_23 fg_PG_93 (w369 _) rfl ?_
    refine ST.lift (fun _ _ k => T_bipush (v := nI 32) d_PG_times_26 (by decide) k) ?_
    refine ST.lift (fun _ _ k => T_aload_n (v := .ref 61) d_PG_times_28 rfl (Or.inr ⟨_, rfl⟩) k) ?_
    refine S_getfield d_PG_times_29 fg_PG_12 (w61 _) rfl ?_
    refine S_getfield d_PG_times_32 fg_PG_78 (w62 _) rfl ?_
    refine S_virtual (as := [.ref 370, .int (nI 32), .ref 188]) (rest := []) (b := 77) d_PG_times_35 rfl (jw_Cu_decode.jo (by decide)) lm_PG_96 ji_Cu_decode js_Cu_decode (w77 _) rfl rfl rfl (Nat.le_of_ble_eq_true rfl) (by decide) (by decide) (c_Cu_decode G v 370 200 (by decide) a370 (by omega) 32 (by omega) 188 189 190 191 192 ⟨w188, a189, a190, a191, a192, by decide, by decide, by decide, by decide⟩ hv) (fun r u29 hq => ?_)
    obtain ⟨z32, hz32, hr, hv30, hm31⟩ := hq
    rw [hr]
    clear hr r
    have hm33 := hm.go hm31 (by intro i hi; simp only [List.mem_cons, List.not_mem_nil, or_false] at hi ⊢ <;> omega)
    have e34 : u29 64 = nI k1 := (hm31 64 (by decide)).trans ek1
    show ST G mi_PG_times 38 [(0, .ref 61)] [.int (nI z32)] u29 0 0 _
    refine S_if_eqN d_PG_times_38 rfl (by omega) (fun c35 => ?_) (fun c35 => ?_)
    · refine ST.lift (fun _ _ k => T_iconst (v := nI 0) d_PG_times_45 (by decide) k) ?_
      exact J46_11 u29 hv30 hm33 0 (by omega)
    · refine ST.lift (fun _ _ k => T_iconst (v := nI 1) d_PG_times_41 (by decide) k) ?_
      refine ST.lift (fun _ _ k => T_goto (tgt := 46) d_PG_times_42 rfl k) ?_
      exact J46_11 u29 hv30 hm33 1 (by omega)
set_option maxRecDepth 100000 in
set_option maxHeartbeats 4000000 in
theorem c_PG_times_few (G : GX) (v : Nat → Int32) (t : Nat) (e64 : v 64 = nI t) (ht : t < 64) (hv : okv v) : CS G mi_PG_times [.ref 61] v (fun r v' => r = some (.int (-1)) ∧ okv v' ∧ mdf [64] v v' ∧ v' 64 = nI 0) := by
  refine CS.of (by decide) (Nat.le_of_ble_eq_true rfl) ?_
  generalize hQe : (fun (r : Option Value) (v' : Nat → Int32) => r = some (.int (-1)) ∧ okv v' ∧ mdf [64] v v' ∧ v' 64 = nI 0) = Q
  have hQ : ∀ u, okv u → mdf [64] v u → u 64 = nI 0 → Q (some (.int (-1))) u := by rw [← hQe]; exact fun u h1 h2 f0 => ⟨rfl, h1, h2, f0⟩
  clear hQe
  have hm : mdf [64] v v := mdf.rf
  show ST G mi_PG_times 0 [(0, .ref 61)] [] v 0 0 Q
  refine ST.lift (fun _ _ k => T_aload_n (v := .ref 61) d_PG_times_0 rfl (Or.inr ⟨_, rfl⟩) k) ?_
  refine S_getfield d_PG_times_1 fg_PG_42 (w61 _) rfl ?_
  refine S_getfield d_PG_times_4 fg_PG_49 (w369 _) rfl ?_
  refine S_topi (y := nI t) (e64) ?_
  refine ST.lift (fun _ _ k => T_bipush (v := nI 64) d_PG_times_7 (by decide) k) ?_
  refine S_icmp_ltN d_PG_times_9 rfl (by omega) (by omega) (fun _ => ?_) (fun c => by first | exact absurd c (by omega) | exact c.elim | exact absurd c (by decide) | exact absurd (by assumption) c | exact absurd c (by assumption))
  refine ST.lift (fun _ _ k => T_iconst (v := nI 0) d_PG_times_45 (by decide) k) ?_
  refine ST.lift (fun _ _ k => T_istore_n (L' := [(1, .int (nI 0)), (0, .ref 61)]) d_PG_times_46 (by decide) rfl k) ?_
  refine ST.lift (fun _ _ k => T_iload_n d_PG_times_47 rfl k) ?_
  refine S_if_eqN d_PG_times_48 rfl (by omega) (fun _ => ?_) (fun c => by first | exact absurd c (by omega) | exact c.elim | exact absurd c (by decide) | exact absurd (by assumption) c | exact absurd c (by assumption))
  refine ST.lift (fun _ _ k => T_aload_n (v := .ref 61) d_PG_times_112 rfl (Or.inr ⟨_, rfl⟩) k) ?_
  refine S_getfield d_PG_times_113 fg_PG_42 (w61 _) rfl ?_
  refine S_virtual (as := []) (rest := []) (b := 369) d_PG_times_116 rfl (jw_By_clear.jo (by decide)) lm_PG_71 ji_By_clear js_By_clear (w369 _) rfl rfl rfl (Nat.le_of_ble_eq_true rfl) (by decide) (by decide) (c_By_clear G v 369 370 200 64 ⟨w369, a370, by decide, u369_1, by decide, by decide⟩ hv) (fun r v' hq => ?_)
  rw [hq.1, hq.2]
  clear hq r v'
  show ST G mi_PG_times 119 [(1, .int (nI 0)), (0, .ref 61)] [] (va_up v 64 (nI 0)) 0 0 _
  have hv2 := hv.up (j := 64) (c := 200) (k := 0) (by decide) (by omega)
  have hm3 := hm.go (mdf.up (v := v) (j := 64) (x := (nI 0))) (by intro i hi; simp only [List.mem_cons, List.not_mem_nil, or_false] at hi ⊢ <;> omega)
  have e_u1 : (va_up v 64 (nI 0)) 64 = (nI 0) := by simp [va_up]
  generalize va_up v 64 (nI 0) = u1 at hv2 hm3 e_u1 ⊢
  refine ST.lift (fun _ _ k => T_iload_n d_PG_times_119 rfl k) ?_
  refine S_if_eqN d_PG_times_120 rfl (by omega) (fun _ => ?_) (fun c => by first | exact absurd c (by omega) | exact c.elim | exact absurd c (by decide) | exact absurd (by assumption) c | exact absurd c (by assumption))
  refine ST.lift (fun _ _ k => T_iconst (v := -1) d_PG_times_133 (by decide) k) ?_
  exact S_ret d_PG_times_134 rfl rfl (by decide) (by decide) (hQ _ hv2 hm3 (e_u1.trans (congrArg nI (by omega))))
set_option maxRecDepth 100000 in
set_option maxHeartbeats 4000000 in
theorem c_PG_enroll_in (G : GX) (v : Nat → Int32) (usr : Nat) (b_usr : usr ≤ 7) (hv : okv v) : CS G mi_PG_enroll [.ref 61, .int (nI usr)] v (fun r v' => r = some (.int (nI 0)) ∧ okv v' ∧ mdf [1, 2, 3, 4, 5, 6, 7, 8, 9, 10, 11, 12, 13, 14, 15, 16, 17, 18, 19, 20, 21, 22, 23, 24, 25, 26, 27, 28, 29, 30, 31, 32, 33, 34, 35, 36, 37, 38, 39, 40, 41, 42, 43, 44, 45, 46, 47, 48, 49, 50, 51, 52, 53, 54, 55, 56, 57, 58, 59, 60, 61, 62, 63, 64, 65, 76, 77, 78, 79, 80, 81, 82, 83, 84, 85, 86, 87] v v' ∧ v' 64 = nI 0) := by
  refine CS.of (by decide) (Nat.le_of_ble_eq_true rfl) ?_
  generalize hQe : (fun (r : Option Value) (v' : Nat → Int32) => r = some (.int (nI 0)) ∧ okv v' ∧ mdf [1, 2, 3, 4, 5, 6, 7, 8, 9, 10, 11, 12, 13, 14, 15, 16, 17, 18, 19, 20, 21, 22, 23, 24, 25, 26, 27, 28, 29, 30, 31, 32, 33, 34, 35, 36, 37, 38, 39, 40, 41, 42, 43, 44, 45, 46, 47, 48, 49, 50, 51, 52, 53, 54, 55, 56, 57, 58, 59, 60, 61, 62, 63, 64, 65, 76, 77, 78, 79, 80, 81, 82, 83, 84, 85, 86, 87] v v' ∧ v' 64 = nI 0) = Q
  have hQ : ∀ u, okv u → mdf [1, 2, 3, 4, 5, 6, 7, 8, 9, 10, 11, 12, 13, 14, 15, 16, 17, 18, 19, 20, 21, 22, 23, 24, 25, 26, 27, 28, 29, 30, 31, 32, 33, 34, 35, 36, 37, 38, 39, 40, 41, 42, 43, 44, 45, 46, 47, 48, 49, 50, 51, 52, 53, 54, 55, 56, 57, 58, 59, 60, 61, 62, 63, 64, 65, 76, 77, 78, 79, 80, 81, 82, 83, 84, 85, 86, 87] v u → u 64 = nI 0 → Q (some (.int (nI 0))) u := by rw [← hQe]; exact fun u h1 h2 f0 => ⟨rfl, h1, h2, f0⟩
  clear hQe
  have hm : mdf [1, 2, 3, 4, 5, 6, 7, 8, 9, 10, 11, 12, 13, 14, 15, 16, 17, 18, 19, 20, 21, 22, 23, 24, 25, 26, 27, 28, 29, 30, 31, 32, 33, 34, 35, 36, 37, 38, 39, 40, 41, 42, 43, 44, 45, 46, 47, 48, 49, 50, 51, 52, 53, 54, 55, 56, 57, 58, 59, 60, 61, 62, 63, 64, 65, 76, 77, 78, 79, 80, 81, 82, 83, 84, 85, 86, 87] v v := mdf.rf
  show ST G mi_PG_enroll 0 [(0, .ref 61), (1, .int (nI usr))] [] v 0 0 Q
  refine ST.lift (fun _ _ k => T_iload_n d_PG_enroll_0 rfl k) ?_
  refine S_static (as := [.int (nI usr)]) (rest := []) d_PG_enroll_1 rfl (jw_PG_isUser.jo (by decide)) lm_PG_126 jt_PG_isUser rfl (Nat.le_of_ble_eq_true rfl) (by decide) (by decide) (c_PG_isUser G v usr (by omega)) (fun r v' hq => ?_)
  rw [hq.1, hq.2]
  clear hq r v'
  show ST G mi_PG_enroll 4 [(0, .ref 61), (1, .int (nI usr))] [.int (nI 1)] v 0 0 _
  refine ST.lift (fun _ _ k => T_istore_n (L' := [(2, .int (nI 1)), (0, .ref 61), (1, .int (nI usr))]) d_PG_enroll_4 (by decide) rfl k) ?_
  refine ST.lift (fun _ _ k => T_iload_n d_PG_enroll_5 rfl k) ?_
  refine S_if_eqN d_PG_enroll_6 rfl (by omega) (fun c => by first | exact absurd c (by omega) | exact c.elim | exact absurd c (by decide) | exact absurd (by assumption) c | exact absurd c (by assumption)) (fun _ => ?_)
  refine ST.lift (fun _ _ k => T_aload_n (v := .ref 61) d_PG_enroll_9 rfl (Or.inr ⟨_, rfl⟩) k) ?_
  refine S_getfield d_PG_enroll_10 fg_PG_28 (w61 _) rfl ?_
  refine ST.lift (fun _ _ k => T_aload_n (v := .ref 61) d_PG_enroll_13 rfl (Or.inr ⟨_, rfl⟩) k) ?_
  refine S_getfield d_PG_enroll_14 fg_PG_12 (w61 _) rfl ?_
  refine ST.lift (fun _ _ k => T_iload_n d_PG_enroll_17 rfl k) ?_
  refine ST.lift (fun _ _ k => T_aload_n (v := .ref 61) d_PG_enroll_18 rfl (Or.inr ⟨_, rfl⟩) k) ?_
  refine S_getfield d_PG_enroll_19 fg_PG_42 (w61 _) rfl ?_
  refine S_virtual (as := [.ref 62, .int (nI usr), .ref 369]) (rest := []) (b := 231) d_PG_enroll_22 rfl (jw_Se_register.jo (by decide)) lm_PG_129 ji_Se_register js_Se_register (w231 _) rfl rfl rfl (Nat.le_of_ble_eq_true rfl) (by decide) (by decide) (c_Se_register G v usr (by omega) 369 370 200 64 ⟨w369, a370, by decide, u369_1, by decide, by decide⟩ hv) (fun r u1 hq => ?_)
  obtain ⟨hr, hv2, hm3⟩ := hq
  rw [hr]
  clear hr r
  have hm4 := hm.go hm3 (by intro i hi; simp only [List.mem_cons, List.not_mem_nil, or_false] at hi ⊢ <;> omega)
  show ST G mi_PG_enroll 25 [(2, .int (nI 1)), (0, .ref 61), (1, .int (nI usr))] [] u1 0 0 _
  refine ST.lift (fun _ _ k => T_aload_n (v := .ref 61) d_PG_enroll_25 rfl (Or.inr ⟨_, rfl⟩) k) ?_
  refine S_getfield d_PG_enroll_26 fg_PG_42 (w61 _) rfl ?_
  refine S_virtual (as := []) (rest := []) (b := 369) d_PG_enroll_29 rfl (jw_By_clear.jo (by decide)) lm_PG_71 ji_By_clear js_By_clear (w369 _) rfl rfl rfl (Nat.le_of_ble_eq_true rfl) (by decide) (by decide) (c_By_clear G u1 369 370 200 64 ⟨w369, a370, by decide, u369_1, by decide, by decide⟩ hv2) (fun r v' hq => ?_)
  rw [hq.1, hq.2]
  clear hq r v'
  show ST G mi_PG_enroll 32 [(2, .int (nI 1)), (0, .ref 61), (1, .int (nI usr))] [] (va_up u1 64 (nI 0)) 0 0 _
  have hv6 := hv2.up (j := 64) (c := 200) (k := 0) (by decide) (by omega)
  have hm7 := hm4.go (mdf.up (v := u1) (j := 64) (x := (nI 0))) (by intro i hi; simp only [List.mem_cons, List.not_mem_nil, or_false] at hi ⊢ <;> omega)
  have e_u5 : (va_up u1 64 (nI 0)) 64 = (nI 0) := by simp [va_up]
  generalize va_up u1 64 (nI 0) = u5 at hv6 hm7 e_u5 ⊢
  refine ST.lift (fun _ _ k => T_iload_n d_PG_enroll_32 rfl k) ?_
  refine S_if_eqN d_PG_enroll_33 rfl (by omega) (fun c => by first | exact absurd c (by omega) | exact c.elim | exact absurd c (by decide) | exact absurd (by assumption) c | exact absurd c (by assumption)) (fun _ => ?_)
  refine ST.lift (fun _ _ k => T_iconst (v := nI 0) d_PG_enroll_36 (by decide) k) ?_
  refine ST.lift (fun _ _ k => T_goto (tgt := 41) d_PG_enroll_37 rfl k) ?_
  refine S_topi (y := nI 0) (congrArg nI (by omega)) ?_
  exact S_ret d_PG_enroll_41 rfl rfl (by decide) (by decide) (hQ _ hv6 hm7 (e_u5.trans (congrArg nI (by omega))))
set_option maxRecDepth 100000 in
set_option maxHeartbeats 4000000 in
theorem c_PG_enroll_neg (G : GX) (v : Nat → Int32) (x : Int32) (hx_u : x < 0) (hv : okv v) : CS G mi_PG_enroll [.ref 61, .int x] v (fun r v' => r = some (.int (-1)) ∧ okv v' ∧ mdf [64] v v' ∧ v' 64 = nI 0) := by
  refine CS.of (by decide) (Nat.le_of_ble_eq_true rfl) ?_
  generalize hQe : (fun (r : Option Value) (v' : Nat → Int32) => r = some (.int (-1)) ∧ okv v' ∧ mdf [64] v v' ∧ v' 64 = nI 0) = Q
  have hQ : ∀ u, okv u → mdf [64] v u → u 64 = nI 0 → Q (some (.int (-1))) u := by rw [← hQe]; exact fun u h1 h2 f0 => ⟨rfl, h1, h2, f0⟩
  clear hQe
  have hm : mdf [64] v v := mdf.rf
  show ST G mi_PG_enroll 0 [(0, .ref 61), (1, .int x)] [] v 0 0 Q
  refine ST.lift (fun _ _ k => T_iload_n d_PG_enroll_0 rfl k) ?_
  refine S_static (as := [.int x]) (rest := []) d_PG_enroll_1 rfl (jw_PG_isUser.jo (by decide)) lm_PG_126 jt_PG_isUser rfl (Nat.le_of_ble_eq_true rfl) (by decide) (by decide) (c_PG_isUser_neg G v x hx_u) (fun r v' hq => ?_)
  rw [hq.1, hq.2]
  clear hq r v'
  show ST G mi_PG_enroll 4 [(0, .ref 61), (1, .int x)] [.int (nI 0)] v 0 0 _
  refine ST.lift (fun _ _ k => T_istore_n (L' := [(2, .int (nI 0)), (0, .ref 61), (1, .int x)]) d_PG_enroll_4 (by decide) rfl k) ?_
  refine ST.lift (fun _ _ k => T_iload_n d_PG_enroll_5 rfl k) ?_
  refine S_if_eqN d_PG_enroll_6 rfl (by omega) (fun _ => ?_) (fun c => by first | exact absurd c (by omega) | exact c.elim | exact absurd c (by decide) | exact absurd (by assumption) c | exact absurd c (by assumption))
  refine ST.lift (fun _ _ k => T_aload_n (v := .ref 61) d_PG_enroll_25 rfl (Or.inr ⟨_, rfl⟩) k) ?_
  refine S_getfield d_PG_enroll_26 fg_PG_42 (w61 _) rfl ?_
  refine S_virtual (as := []) (rest := []) (b := 369) d_PG_enroll_29 rfl (jw_By_clear.jo (by decide)) lm_PG_71 ji_By_clear js_By_clear (w369 _) rfl rfl rfl (Nat.le_of_ble_eq_true rfl) (by decide) (by decide) (c_By_clear G v 369 370 200 64 ⟨w369, a370, by decide, u369_1, by decide, by decide⟩ hv) (fun r v' hq => ?_)
  rw [hq.1, hq.2]
  clear hq r v'
  show ST G mi_PG_enroll 32 [(2, .int (nI 0)), (0, .ref 61), (1, .int x)] [] (va_up v 64 (nI 0)) 0 0 _
  have hv2 := hv.up (j := 64) (c := 200) (k := 0) (by decide) (by omega)
  have hm3 := hm.go (mdf.up (v := v) (j := 64) (x := (nI 0))) (by intro i hi; simp only [List.mem_cons, List.not_mem_nil, or_false] at hi ⊢ <;> omega)
  have e_u1 : (va_up v 64 (nI 0)) 64 = (nI 0) := by simp [va_up]
  generalize va_up v 64 (nI 0) = u1 at hv2 hm3 e_u1 ⊢
  refine ST.lift (fun _ _ k => T_iload_n d_PG_enroll_32 rfl k) ?_
  refine S_if_eqN d_PG_enroll_33 rfl (by omega) (fun _ => ?_) (fun c => by first | exact absurd c (by omega) | exact c.elim | exact absurd c (by decide) | exact absurd (by assumption) c | exact absurd c (by assumption))
  refine ST.lift (fun _ _ k => T_iconst (v := -1) d_PG_enroll_40 (by decide) k) ?_
  exact S_ret d_PG_enroll_41 rfl rfl (by decide) (by decide) (hQ _ hv2 hm3 (e_u1.trans (congrArg nI (by omega))))
set_option maxRecDepth 100000 in
set_option maxHeartbeats 4000000 in
theorem c_PG_enroll_big (G : GX) (v : Nat → Int32) (x : Int32) (h0_u : ¬ x < 0) (hx_u : nI 8 ≤ x) (hv : okv v) : CS G mi_PG_enroll [.ref 61, .int x] v (fun r v' => r = some (.int (-1)) ∧ okv v' ∧ mdf [64] v v' ∧ v' 64 = nI 0) := by
  refine CS.of (by decide) (Nat.le_of_ble_eq_true rfl) ?_
  generalize hQe : (fun (r : Option Value) (v' : Nat → Int32) => r = some (.int (-1)) ∧ okv v' ∧ mdf [64] v v' ∧ v' 64 = nI 0) = Q
  have hQ : ∀ u, okv u → mdf [64] v u → u 64 = nI 0 → Q (some (.int (-1))) u := by rw [← hQe]; exact fun u h1 h2 f0 => ⟨rfl, h1, h2, f0⟩
  clear hQe
  have hm : mdf [64] v v := mdf.rf
  show ST G mi_PG_enroll 0 [(0, .ref 61), (1, .int x)] [] v 0 0 Q
  refine ST.lift (fun _ _ k => T_iload_n d_PG_enroll_0 rfl k) ?_
  refine S_static (as := [.int x]) (rest := []) d_PG_enroll_1 rfl (jw_PG_isUser.jo (by decide)) lm_PG_126 jt_PG_isUser rfl (Nat.le_of_ble_eq_true rfl) (by decide) (by decide) (c_PG_isUser_big G v x h0_u hx_u) (fun r v' hq => ?_)
  rw [hq.1, hq.2]
  clear hq r v'
  show ST G mi_PG_enroll 4 [(0, .ref 61), (1, .int x)] [.int (nI 0)] v 0 0 _
  refine ST.lift (fun _ _ k => T_istore_n (L' := [(2, .int (nI 0)), (0, .ref 61), (1, .int x)]) d_PG_enroll_4 (by decide) rfl k) ?_
  refine ST.lift (fun _ _ k => T_iload_n d_PG_enroll_5 rfl k) ?_
  refine S_if_eqN d_PG_enroll_6 rfl (by omega) (fun _ => ?_) (fun c => by first | exact absurd c (by omega) | exact c.elim | exact absurd c (by decide) | exact absurd (by assumption) c | exact absurd c (by assumption))
  refine ST.lift (fun _ _ k => T_aload_n (v := .ref 61) d_PG_enroll_25 rfl (Or.inr ⟨_, rfl⟩) k) ?_
  refine S_getfield d_PG_enroll_26 fg_PG_42 (w61 _) rfl ?_
  refine S_virtual (as := []) (rest := []) (b := 369) d_PG_enroll_29 rfl (jw_By_clear.jo (by decide)) lm_PG_71 ji_By_clear js_By_clear (w369 _) rfl rfl rfl (Nat.le_of_ble_eq_true rfl) (by decide) (by decide) (c_By_clear G v 369 370 200 64 ⟨w369, a370, by decide, u369_1, by decide, by decide⟩ hv) (fun r v' hq => ?_)
  rw [hq.1, hq.2]
  clear hq r v'
  show ST G mi_PG_enroll 32 [(2, .int (nI 0)), (0, .ref 61), (1, .int x)] [] (va_up v 64 (nI 0)) 0 0 _
  have hv2 := hv.up (j := 64) (c := 200) (k := 0) (by decide) (by omega)
  have hm3 := hm.go (mdf.up (v := v) (j := 64) (x := (nI 0))) (by intro i hi; simp only [List.mem_cons, List.not_mem_nil, or_false] at hi ⊢ <;> omega)
  have e_u1 : (va_up v 64 (nI 0)) 64 = (nI 0) := by simp [va_up]
  generalize va_up v 64 (nI 0) = u1 at hv2 hm3 e_u1 ⊢
  refine ST.lift (fun _ _ k => T_iload_n d_PG_enroll_32 rfl k) ?_
  refine S_if_eqN d_PG_enroll_33 rfl (by omega) (fun _ => ?_) (fun c => by first | exact absurd c (by omega) | exact c.elim | exact absurd c (by decide) | exact absurd (by assumption) c | exact absurd c (by assumption))
  refine ST.lift (fun _ _ k => T_iconst (v := -1) d_PG_enroll_40 (by decide) k) ?_
  exact S_ret d_PG_enroll_41 rfl rfl (by decide) (by decide) (hQ _ hv2 hm3 (e_u1.trans (congrArg nI (by omega))))
set_option maxRecDepth 100000 in
set_option maxHeartbeats 4000000 in
theorem c_PG_begin_0 (G : GX) (v : Nat → Int32) (usr : Nat) (b_usr : usr ≤ 7) (hv : okv v) : CS G mi_PG_begin [.ref 61, .int (nI 0), .int (nI usr)] v (fun r v' => r = some (.int (nI 0)) ∧ okv v' ∧ mdf [1, 2, 3, 4, 5, 6, 7, 8, 9, 10, 11, 12, 13, 14, 15, 16, 17, 18, 19, 20, 21, 22, 23, 24, 25, 26, 27, 28, 29, 30, 31, 32, 33, 34, 35, 36, 37, 38, 39, 40, 41, 42, 43, 44, 45, 46, 47, 48, 49, 50, 51, 52, 53, 54, 55, 56, 57, 58, 59, 60, 61, 62, 63, 64, 65, 76, 77, 78, 79, 80, 81, 82, 83, 84, 85, 86, 87] v v' ∧ v' 64 = nI 0) := by
  refine CS.of (by decide) (Nat.le_of_ble_eq_true rfl) ?_
  generalize hQe : (fun (r : Option Value) (v' : Nat → Int32) => r = some (.int (nI 0)) ∧ okv v' ∧ mdf [1, 2, 3, 4, 5, 6, 7, 8, 9, 10, 11, 12, 13, 14, 15, 16, 17, 18, 19, 20, 21, 22, 23, 24, 25, 26, 27, 28, 29, 30, 31, 32, 33, 34, 35, 36, 37, 38, 39, 40, 41, 42, 43, 44, 45, 46, 47, 48, 49, 50, 51, 52, 53, 54, 55, 56, 57, 58, 59, 60, 61, 62, 63, 64, 65, 76, 77, 78, 79, 80, 81, 82, 83, 84, 85, 86, 87] v v' ∧ v' 64 = nI 0) = Q
  have hQ : ∀ u, okv u → mdf [1, 2, 3, 4, 5, 6, 7, 8, 9, 10, 11, 12, 13, 14, 15, 16, 17, 18, 19, 20, 21, 22, 23, 24, 25, 26, 27, 28, 29, 30, 31, 32, 33, 34, 35, 36, 37, 38, 39, 40, 41, 42, 43, 44, 45, 46, 47, 48, 49, 50, 51, 52, 53, 54, 55, 56, 57, 58, 59, 60, 61, 62, 63, 64, 65, 76, 77, 78, 79, 80, 81, 82, 83, 84, 85, 86, 87] v u → u 64 = nI 0 → Q (some (.int (nI 0))) u := by rw [← hQe]; exact fun u h1 h2 f0 => ⟨rfl, h1, h2, f0⟩
  clear hQe
  have hm : mdf [1, 2, 3, 4, 5, 6, 7, 8, 9, 10, 11, 12, 13, 14, 15, 16, 17, 18, 19, 20, 21, 22, 23, 24, 25, 26, 27, 28, 29, 30, 31, 32, 33, 34, 35, 36, 37, 38, 39, 40, 41, 42, 43, 44, 45, 46, 47, 48, 49, 50, 51, 52, 53, 54, 55, 56, 57, 58, 59, 60, 61, 62, 63, 64, 65, 76, 77, 78, 79, 80, 81, 82, 83, 84, 85, 86, 87] v v := mdf.rf
  show ST G mi_PG_begin 0 [(0, .ref 61), (1, .int (nI 0)), (2, .int (nI usr))] [] v 0 0 Q
  refine ST.lift (fun _ _ k => T_iload_n d_PG_begin_0 rfl k) ?_
  refine S_static (as := [.int (nI 0)]) (rest := []) d_PG_begin_1 rfl (jw_PG_isSession.jo (by decide)) lm_PG_133 jt_PG_isSession rfl (Nat.le_of_ble_eq_true rfl) (by decide) (by decide) (c_PG_isSession G v 0 (by omega)) (fun r v' hq => ?_)
  rw [hq.1, hq.2]
  clear hq r v'
  show ST G mi_PG_begin 4 [(0, .ref 61), (1, .int (nI 0)), (2, .int (nI usr))] [.int (nI 1)] v 0 0 _
  refine S_if_eqN d_PG_begin_4 rfl (by omega) (fun c => by first | exact absurd c (by omega) | exact c.elim | exact absurd c (by decide) | exact absurd (by assumption) c | exact absurd c (by assumption)) (fun _ => ?_)
  refine ST.lift (fun _ _ k => T_iload_n d_PG_begin_7 rfl k) ?_
  refine S_static (as := [.int (nI usr)]) (rest := []) d_PG_begin_8 rfl (jw_PG_isUser.jo (by decide)) lm_PG_126 jt_PG_isUser rfl (Nat.le_of_ble_eq_true rfl) (by decide) (by decide) (c_PG_isUser G v usr (by omega)) (fun r v' hq => ?_)
  rw [hq.1, hq.2]
  clear hq r v'
  show ST G mi_PG_begin 11 [(0, .ref 61), (1, .int (nI 0)), (2, .int (nI usr))] [.int (nI 1)] v 0 0 _
  refine S_if_eqN d_PG_begin_11 rfl (by omega) (fun c => by first | exact absurd c (by omega) | exact c.elim | exact absurd c (by decide) | exact absurd (by assumption) c | exact absurd c (by assumption)) (fun _ => ?_)
  refine ST.lift (fun _ _ k => T_iconst (v := nI 1) d_PG_begin_14 (by decide) k) ?_
  refine ST.lift (fun _ _ k => T_goto (tgt := 19) d_PG_begin_15 rfl k) ?_
  refine ST.lift (fun _ _ k => T_istore_n (L' := [(3, .int (nI 1)), (0, .ref 61), (1, .int (nI 0)), (2, .int (nI usr))]) d_PG_begin_19 (by decide) rfl k) ?_
  refine ST.lift (fun _ _ k => T_iload_n d_PG_begin_20 rfl k) ?_
  refine S_if_eqN d_PG_begin_21 rfl (by omega) (fun c => by first | exact absurd c (by omega) | exact c.elim | exact absurd c (by decide) | exact absurd (by assumption) c | exact absurd c (by assumption)) (fun _ => ?_)
  refine ST.lift (fun _ _ k => T_aload_n (v := .ref 61) d_PG_begin_24 rfl (Or.inr ⟨_, rfl⟩) k) ?_
  refine S_getfield d_PG_begin_25 fg_PG_34 (w61 _) rfl ?_
  refine ST.lift (fun _ _ k => T_iload_n d_PG_begin_28 rfl k) ?_
  refine S_aaload (C0 := "PasswordGate$Session") d_PG_begin_29 (by decide) (w264 _) rfl (vp_in_nI (by omega) (by omega)) ?_
  refine ST.lift (fun _ _ k => T_aload_n (v := .ref 61) d_PG_begin_30 rfl (Or.inr ⟨_, rfl⟩) k) ?_
  refine S_getfield d_PG_begin_31 fg_PG_12 (w61 _) rfl ?_
  refine ST.lift (fun _ _ k => T_iload_n d_PG_begin_34 rfl k) ?_
  refine ST.lift (fun _ _ k => T_aload_n (v := .ref 61) d_PG_begin_35 rfl (Or.inr ⟨_, rfl⟩) k) ?_
  refine S_getfield d_PG_begin_36 fg_PG_42 (w61 _) rfl ?_
  refine S_virtual (as := [.ref 62, .int (nI usr), .ref 369]) (rest := []) (b := 265) d_PG_begin_39 rfl (jw_Ss_start.jo (by decide)) lm_PG_136 ji_Ss_start js_Ss_start (w265 _) rfl rfl rfl (Nat.le_of_ble_eq_true rfl) (by decide) (by decide) (c_Ss_start_265 G v usr (by omega) 369 370 200 64 ⟨w369, a370, by decide, u369_1, by decide, by decide⟩ hv) (fun r u1 hq => ?_)
  obtain ⟨hr, hv2, hm3⟩ := hq
  rw [hr]
  clear hr r
  have hm4 := hm.go hm3 (by intro i hi; simp only [List.mem_cons, List.not_mem_nil, or_false] at hi ⊢ <;> omega)
  show ST G mi_PG_begin 42 [(3, .int (nI 1)), (0, .ref 61), (1, .int (nI 0)), (2, .int (nI usr))] [] u1 0 0 _
  refine ST.lift (fun _ _ k => T_aload_n (v := .ref 61) d_PG_begin_42 rfl (Or.inr ⟨_, rfl⟩) k) ?_
  refine S_getfield d_PG_begin_43 fg_PG_42 (w61 _) rfl ?_
  refine S_virtual (as := []) (rest := []) (b := 369) d_PG_begin_46 rfl (jw_By_clear.jo (by decide)) lm_PG_71 ji_By_clear js_By_clear (w369 _) rfl rfl rfl (Nat.le_of_ble_eq_true rfl) (by decide) (by decide) (c_By_clear G u1 369 370 200 64 ⟨w369, a370, by decide, u369_1, by decide, by decide⟩ hv2) (fun r v' hq => ?_)
  rw [hq.1, hq.2]
  clear hq r v'
  show ST G mi_PG_begin 49 [(3, .int (nI 1)), (0, .ref 61), (1, .int (nI 0)), (2, .int (nI usr))] [] (va_up u1 64 (nI 0)) 0 0 _
  have hv6 := hv2.up (j := 64) (c := 200) (k := 0) (by decide) (by omega)
  have hm7 := hm4.go (mdf.up (v := u1) (j := 64) (x := (nI 0))) (by intro i hi; simp only [List.mem_cons, List.not_mem_nil, or_false] at hi ⊢ <;> omega)
  have e_u5 : (va_up u1 64 (nI 0)) 64 = (nI 0) := by simp [va_up]
  generalize va_up u1 64 (nI 0) = u5 at hv6 hm7 e_u5 ⊢
  refine ST.lift (fun _ _ k => T_iload_n d_PG_begin_49 rfl k) ?_
  refine S_if_eqN d_PG_begin_50 rfl (by omega) (fun c => by first | exact absurd c (by omega) | exact c.elim | exact absurd c (by decide) | exact absurd (by assumption) c | exact absurd c (by assumption)) (fun _ => ?_)
  refine ST.lift (fun _ _ k => T_iconst (v := nI 0) d_PG_begin_53 (by decide) k) ?_
  refine ST.lift (fun _ _ k => T_goto (tgt := 58) d_PG_begin_54 rfl k) ?_
  refine S_topi (y := nI 0) (congrArg nI (by omega)) ?_
  exact S_ret d_PG_begin_58 rfl rfl (by decide) (by decide) (hQ _ hv6 hm7 (e_u5.trans (congrArg nI (by omega))))
set_option maxRecDepth 100000 in
set_option maxHeartbeats 4000000 in
theorem c_PG_begin_0_neg (G : GX) (v : Nat → Int32) (x : Int32) (hx_u : x < 0) (hv : okv v) : CS G mi_PG_begin [.ref 61, .int (nI 0), .int x] v (fun r v' => r = some (.int (-1)) ∧ okv v' ∧ mdf [64] v v' ∧ v' 64 = nI 0) := by
  refine CS.of (by decide) (Nat.le_of_ble_eq_true rfl) ?_
  generalize hQe : (fun (r : Option Value) (v' : Nat → Int32) => r = some (.int (-1)) ∧ okv v' ∧ mdf [64] v v' ∧ v' 64 = nI 0) = Q
  have hQ : ∀ u, okv u → mdf [64] v u → u 64 = nI 0 → Q (some (.int (-1))) u := by rw [← hQe]; exact fun u h1 h2 f0 => ⟨rfl, h1, h2, f0⟩
  clear hQe
  have hm : mdf [64] v v := mdf.rf
  show ST G mi_PG_begin 0 [(0, .ref 61), (1, .int (nI 0)), (2, .int x)] [] v 0 0 Q
  refine ST.lift (fun _ _ k => T_iload_n d_PG_begin_0 rfl k) ?_
  refine S_static (as := [.int (nI 0)]) (rest := []) d_PG_begin_1 rfl (jw_PG_isSession.jo (by decide)) lm_PG_133 jt_PG_isSession rfl (Nat.le_of_ble_eq_true rfl) (by decide) (by decide) (c_PG_isSession G v 0 (by omega)) (fun r v' hq => ?_)
  rw [hq.1, hq.2]
  clear hq r v'
  show ST G mi_PG_begin 4 [(0, .ref 61), (1, .int (nI 0)), (2, .int x)] [.int (nI 1)] v 0 0 _
  refine S_if_eqN d_PG_begin_4 rfl (by omega) (fun c => by first | exact absurd c (by omega) | exact c.elim | exact absurd c (by decide) | exact absurd (by assumption) c | exact absurd c (by assumption)) (fun _ => ?_)
  refine ST.lift (fun _ _ k => T_iload_n d_PG_begin_7 rfl k) ?_
  refine S_static (as := [.int x]) (rest := []) d_PG_begin_8 rfl (jw_PG_isUser.jo (by decide)) lm_PG_126 jt_PG_isUser rfl (Nat.le_of_ble_eq_true rfl) (by decide) (by decide) (c_PG_isUser_neg G v x hx_u) (fun r v' hq => ?_)
  rw [hq.1, hq.2]
  clear hq r v'
  show ST G mi_PG_begin 11 [(0, .ref 61), (1, .int (nI 0)), (2, .int x)] [.int (nI 0)] v 0 0 _
  refine S_if_eqN d_PG_begin_11 rfl (by omega) (fun _ => ?_) (fun c => by first | exact absurd c (by omega) | exact c.elim | exact absurd c (by decide) | exact absurd (by assumption) c | exact absurd c (by assumption))
  refine ST.lift (fun _ _ k => T_iconst (v := nI 0) d_PG_begin_18 (by decide) k) ?_
  refine ST.lift (fun _ _ k => T_istore_n (L' := [(3, .int (nI 0)), (0, .ref 61), (1, .int (nI 0)), (2, .int x)]) d_PG_begin_19 (by decide) rfl k) ?_
  refine ST.lift (fun _ _ k => T_iload_n d_PG_begin_20 rfl k) ?_
  refine S_if_eqN d_PG_begin_21 rfl (by omega) (fun _ => ?_) (fun c => by first | exact absurd c (by omega) | exact c.elim | exact absurd c (by decide) | exact absurd (by assumption) c | exact absurd c (by assumption))
  refine ST.lift (fun _ _ k => T_aload_n (v := .ref 61) d_PG_begin_42 rfl (Or.inr ⟨_, rfl⟩) k) ?_
  refine S_getfield d_PG_begin_43 fg_PG_42 (w61 _) rfl ?_
  refine S_virtual (as := []) (rest := []) (b := 369) d_PG_begin_46 rfl (jw_By_clear.jo (by decide)) lm_PG_71 ji_By_clear js_By_clear (w369 _) rfl rfl rfl (Nat.le_of_ble_eq_true rfl) (by decide) (by decide) (c_By_clear G v 369 370 200 64 ⟨w369, a370, by decide, u369_1, by decide, by decide⟩ hv) (fun r v' hq => ?_)
  rw [hq.1, hq.2]
  clear hq r v'
  show ST G mi_PG_begin 49 [(3, .int (nI 0)), (0, .ref 61), (1, .int (nI 0)), (2, .int x)] [] (va_up v 64 (nI 0)) 0 0 _
  have hv2 := hv.up (j := 64) (c := 200) (k := 0) (by decide) (by omega)
  have hm3 := hm.go (mdf.up (v := v) (j := 64) (x := (nI 0))) (by intro i hi; simp only [List.mem_cons, List.not_mem_nil, or_false] at hi ⊢ <;> omega)
  have e_u1 : (va_up v 64 (nI 0)) 64 = (nI 0) := by simp [va_up]
  generalize va_up v 64 (nI 0) = u1 at hv2 hm3 e_u1 ⊢
  refine ST.lift (fun _ _ k => T_iload_n d_PG_begin_49 rfl k) ?_
  refine S_if_eqN d_PG_begin_50 rfl (by omega) (fun _ => ?_) (fun c => by first | exact absurd c (by omega) | exact c.elim | exact absurd c (by decide) | exact absurd (by assumption) c | exact absurd c (by assumption))
  refine ST.lift (fun _ _ k => T_iconst (v := -1) d_PG_begin_57 (by decide) k) ?_
  exact S_ret d_PG_begin_58 rfl rfl (by decide) (by decide) (hQ _ hv2 hm3 (e_u1.trans (congrArg nI (by omega))))
set_option maxRecDepth 100000 in
set_option maxHeartbeats 4000000 in
theorem c_PG_begin_0_big (G : GX) (v : Nat → Int32) (x : Int32) (h0_u : ¬ x < 0) (hx_u : nI 8 ≤ x) (hv : okv v) : CS G mi_PG_begin [.ref 61, .int (nI 0), .int x] v (fun r v' => r = some (.int (-1)) ∧ okv v' ∧ mdf [64] v v' ∧ v' 64 = nI 0) := by
  refine CS.of (by decide) (Nat.le_of_ble_eq_true rfl) ?_
  generalize hQe : (fun (r : Option Value) (v' : Nat → Int32) => r = some (.int (-1)) ∧ okv v' ∧ mdf [64] v v' ∧ v' 64 = nI 0) = Q
  have hQ : ∀ u, okv u → mdf [64] v u → u 64 = nI 0 → Q (some (.int (-1))) u := by rw [← hQe]; exact fun u h1 h2 f0 => ⟨rfl, h1, h2, f0⟩
  clear hQe
  have hm : mdf [64] v v := mdf.rf
  show ST G mi_PG_begin 0 [(0, .ref 61), (1, .int (nI 0)), (2, .int x)] [] v 0 0 Q
  refine ST.lift (fun _ _ k => T_iload_n d_PG_begin_0 rfl k) ?_
  refine S_static (as := [.int (nI 0)]) (rest := []) d_PG_begin_1 rfl (jw_PG_isSession.jo (by decide)) lm_PG_133 jt_PG_isSession rfl (Nat.le_of_ble_eq_true rfl) (by decide) (by decide) (c_PG_isSession G v 0 (by omega)) (fun r v' hq => ?_)
  rw [hq.1, hq.2]
  clear hq r v'
  show ST G mi_PG_begin 4 [(0, .ref 61), (1, .int (nI 0)), (2, .int x)] [.int (nI 1)] v 0 0 _
  refine S_if_eqN d_PG_begin_4 rfl (by omega) (fun c => by first | exact absurd c (by omega) | exact c.elim | exact absurd c (by decide) | exact absurd (by assumption) c | exact absurd c (by assumption)) (fun _ => ?_)
  refine ST.lift (fun _ _ k => T_iload_n d_PG_begin_7 rfl k) ?_
  refine S_static (as := [.int x]) (rest := []) d_PG_begin_8 rfl (jw_PG_isUser.jo (by decide)) lm_PG_126 jt_PG_isUser rfl (Nat.le_of_ble_eq_true rfl) (by decide) (by decide) (c_PG_isUser_big G v x h0_u hx_u) (fun r v' hq => ?_)
  rw [hq.1, hq.2]
  clear hq r v'
  show ST G mi_PG_begin 11 [(0, .ref 61), (1, .int (nI 0)), (2, .int x)] [.int (nI 0)] v 0 0 _
  refine S_if_eqN d_PG_begin_11 rfl (by omega) (fun _ => ?_) (fun c => by first | exact absurd c (by omega) | exact c.elim | exact absurd c (by decide) | exact absurd (by assumption) c | exact absurd c (by assumption))
  refine ST.lift (fun _ _ k => T_iconst (v := nI 0) d_PG_begin_18 (by decide) k) ?_
  refine ST.lift (fun _ _ k => T_istore_n (L' := [(3, .int (nI 0)), (0, .ref 61), (1, .int (nI 0)), (2, .int x)]) d_PG_begin_19 (by decide) rfl k) ?_
  refine ST.lift (fun _ _ k => T_iload_n d_PG_begin_20 rfl k) ?_
  refine S_if_eqN d_PG_begin_21 rfl (by omega) (fun _ => ?_) (fun c => by first | exact absurd c (by omega) | exact c.elim | exact absurd c (by decide) | exact absurd (by assumption) c | exact absurd c (by assumption))
  refine ST.lift (fun _ _ k => T_aload_n (v := .ref 61) d_PG_begin_42 rfl (Or.inr ⟨_, rfl⟩) k) ?_
  refine S_getfield d_PG_begin_43 fg_PG_42 (w61 _) rfl ?_
  refine S_virtual (as := []) (rest := []) (b := 369) d_PG_begin_46 rfl (jw_By_clear.jo (by decide)) lm_PG_71 ji_By_clear js_By_clear (w369 _) rfl rfl rfl (Nat.le_of_ble_eq_true rfl) (by decide) (by decide) (c_By_clear G v 369 370 200 64 ⟨w369, a370, by decide, u369_1, by decide, by decide⟩ hv) (fun r v' hq => ?_)
  rw [hq.1, hq.2]
  clear hq r v'
  show ST G mi_PG_begin 49 [(3, .int (nI 0)), (0, .ref 61), (1, .int (nI 0)), (2, .int x)] [] (va_up v 64 (nI 0)) 0 0 _
  have hv2 := hv.up (j := 64) (c := 200) (k := 0) (by decide) (by omega)
  have hm3 := hm.go (mdf.up (v := v) (j := 64) (x := (nI 0))) (by intro i hi; simp only [List.mem_cons, List.not_mem_nil, or_false] at hi ⊢ <;> omega)
  have e_u1 : (va_up v 64 (nI 0)) 64 = (nI 0) := by simp [va_up]
  generalize va_up v 64 (nI 0) = u1 at hv2 hm3 e_u1 ⊢
  refine ST.lift (fun _ _ k => T_iload_n d_PG_begin_49 rfl k) ?_
  refine S_if_eqN d_PG_begin_50 rfl (by omega) (fun _ => ?_) (fun c => by first | exact absurd c (by omega) | exact c.elim | exact absurd c (by decide) | exact absurd (by assumption) c | exact absurd c (by assumption))
  refine ST.lift (fun _ _ k => T_iconst (v := -1) d_PG_begin_57 (by decide) k) ?_
  exact S_ret d_PG_begin_58 rfl rfl (by decide) (by decide) (hQ _ hv2 hm3 (e_u1.trans (congrArg nI (by omega))))
set_option maxRecDepth 100000 in
set_option maxHeartbeats 4000000 in
theorem c_PG_answer_0 (G : GX) (v : Nat → Int32) (hv : okv v) : CS G mi_PG_answer [.ref 61, .int (nI 0)] v (fun r v' => ∃ z : Int32, r = some (.int z) ∧ okv v' ∧ mdf [1, 2, 3, 4, 5, 6, 7, 8, 9, 10, 11, 12, 13, 14, 15, 16, 17, 18, 19, 20, 21, 22, 23, 24, 25, 26, 27, 28, 29, 30, 31, 32, 33, 34, 35, 36, 37, 38, 39, 40, 41, 42, 43, 44, 45, 46, 47, 48, 49, 50, 51, 52, 53, 54, 55, 56, 57, 58, 59, 60, 61, 62, 63, 65, 76, 77, 78, 79, 80, 81, 82, 83, 84, 85, 86, 87] v v') := by
  refine CS.of (by decide) (Nat.le_of_ble_eq_true rfl) ?_
  generalize hQe : (fun (r : Option Value) (v' : Nat → Int32) => ∃ z : Int32, r = some (.int z) ∧ okv v' ∧ mdf [1, 2, 3, 4, 5, 6, 7, 8, 9, 10, 11, 12, 13, 14, 15, 16, 17, 18, 19, 20, 21, 22, 23, 24, 25, 26, 27, 28, 29, 30, 31, 32, 33, 34, 35, 36, 37, 38, 39, 40, 41, 42, 43, 44, 45, 46, 47, 48, 49, 50, 51, 52, 53, 54, 55, 56, 57, 58, 59, 60, 61, 62, 63, 65, 76, 77, 78, 79, 80, 81, 82, 83, 84, 85, 86, 87] v v') = Q
  have hQ : ∀ (z : Int32) (u : Nat → Int32), okv u → mdf [1, 2, 3, 4, 5, 6, 7, 8, 9, 10, 11, 12, 13, 14, 15, 16, 17, 18, 19, 20, 21, 22, 23, 24, 25, 26, 27, 28, 29, 30, 31, 32, 33, 34, 35, 36, 37, 38, 39, 40, 41, 42, 43, 44, 45, 46, 47, 48, 49, 50, 51, 52, 53, 54, 55, 56, 57, 58, 59, 60, 61, 62, 63, 65, 76, 77, 78, 79, 80, 81, 82, 83, 84, 85, 86, 87] v u → Q (some (.int z)) u := by rw [← hQe]; exact fun z u h1 h2  => ⟨z, rfl, h1, h2⟩
  clear hQe
  have hm : mdf [1, 2, 3, 4, 5, 6, 7, 8, 9, 10, 11, 12, 13, 14, 15, 16, 17, 18, 19, 20, 21, 22, 23, 24, 25, 26, 27, 28, 29, 30, 31, 32, 33, 34, 35, 36, 37, 38, 39, 40, 41, 42, 43, 44, 45, 46, 47, 48, 49, 50, 51, 52, 53, 54, 55, 56, 57, 58, 59, 60, 61, 62, 63, 65, 76, 77, 78, 79, 80, 81, 82, 83, 84, 85, 86, 87] v v := mdf.rf
  show ST G mi_PG_answer 0 [(0, .ref 61), (1, .int (nI 0))] [] v 0 0 Q
  refine ST.lift (fun _ _ k => T_iload_n d_PG_answer_0 rfl k) ?_
  refine S_static (as := [.int (nI 0)]) (rest := []) d_PG_answer_1 rfl (jw_PG_isSession.jo (by decide)) lm_PG_133 jt_PG_isSession rfl (Nat.le_of_ble_eq_true rfl) (by decide) (by decide) (c_PG_isSession G v 0 (by omega)) (fun r v' hq => ?_)
  rw [hq.1, hq.2]
  clear hq r v'
  show ST G mi_PG_answer 4 [(0, .ref 61), (1, .int (nI 0))] [.int (nI 1)] v 0 0 _
  refine S_if_neN d_PG_answer_4 rfl (by omega) (fun _ => ?_) (fun c => by first | exact absurd c (by omega) | exact c.elim | exact absurd c (by decide) | exact absurd (by assumption) c | exact absurd c (by assumption))
  refine ST.lift (fun _ _ k => T_aload_n (v := .ref 61) d_PG_answer_9 rfl (Or.inr ⟨_, rfl⟩) k) ?_
  refine S_getfield d_PG_answer_10 fg_PG_34 (w61 _) rfl ?_
  refine ST.lift (fun _ _ k => T_iload_n d_PG_answer_13 rfl k) ?_
  refine S_aaload (C0 := "PasswordGate$Session") d_PG_answer_14 (by decide) (w264 _) rfl (vp_in_nI (by omega) (by omega)) ?_
  refine ST.lift (fun _ _ k => T_astore_n (L' := [(2, .ref 265), (0, .ref 61), (1, .int (nI 0))]) d_PG_answer_15 (by decide) rfl (Or.inr ⟨_, rfl⟩) k) ?_
  refine ST.lift (fun _ _ k => T_aload_n (v := .ref 265) d_PG_answer_16 rfl (Or.inr ⟨_, rfl⟩) k) ?_
  refine ST.lift (fun _ _ k => T_iconst (v := nI 0) d_PG_answer_17 (by decide) k) ?_
  refine S_virtual (as := [.int (nI 0)]) (rest := []) (b := 265) d_PG_answer_18 rfl (jw_Ss_take.jo (by decide)) lm_PG_139 ji_Ss_take js_Ss_take (w265 _) rfl rfl rfl (Nat.le_of_ble_eq_true rfl) (by decide) (by decide) (c_Ss_take_265_0 G v hv) (fun r u1 hq => ?_)
  obtain ⟨z4, hz4, hr, hv2, hm3⟩ := hq
  rw [hr]
  clear hr r
  have hm5 := hm.go hm3 (by intro i hi; simp only [List.mem_cons, List.not_mem_nil, or_false] at hi ⊢ <;> omega)
  show ST G mi_PG_answer 21 [(2, .ref 265), (0, .ref 61), (1, .int (nI 0))] [.int (nI z4)] u1 0 0 _
  refine S_if_eqN d_PG_answer_21 rfl (by omega) (fun c6 => ?_) (fun c6 => ?_)
  · refine ST.lift (fun _ _ k => T_iconst (v := nI 2) d_PG_answer_43 (by decide) k) ?_
    exact S_ret d_PG_answer_44 rfl rfl (by decide) (by decide) (hQ _ _ hv2 hm5)
  · refine ST.lift (fun _ _ k => T_aload_n (v := .ref 61) d_PG_answer_24 rfl (Or.inr ⟨_, rfl⟩) k) ?_
    refine S_getfield d_PG_answer_25 fg_PG_28 (w61 _) rfl ?_
    refine ST.lift (fun _ _ k => T_aload_n (v := .ref 61) d_PG_answer_28 rfl (Or.inr ⟨_, rfl⟩) k) ?_
    refine S_getfield d_PG_answer_29 fg_PG_12 (w61 _) rfl ?_
    refine ST.lift (fun _ _ k => T_aload_n (v := .ref 61) d_PG_answer_32 rfl (Or.inr ⟨_, rfl⟩) k) ?_
    refine S_getfield d_PG_answer_33 fg_PG_21 (w61 _) rfl ?_
    refine ST.lift (fun _ _ k => T_aload_n (v := .ref 265) d_PG_answer_36 rfl (Or.inr ⟨_, rfl⟩) k) ?_
    refine S_virtual (as := [.ref 62, .ref 217, .ref 265]) (rest := []) (b := 231) d_PG_answer_37 rfl (jw_Se_reply.jo (by decide)) lm_PG_142 ji_Se_reply js_Se_reply (w231 _) rfl rfl rfl (Nat.le_of_ble_eq_true rfl) (by decide) (by decide) (c_Se_reply_265 G u1 hv2) (fun r u7 hq => ?_)
    obtain ⟨z10, hr, hv8, hm9⟩ := hq
    rw [hr]
    clear hr r
    have hm11 := hm5.go hm9 (by intro i hi; simp only [List.mem_cons, List.not_mem_nil, or_false] at hi ⊢ <;> omega)
    show ST G mi_PG_answer 40 [(2, .ref 265), (0, .ref 61), (1, .int (nI 0))] [.int z10] u7 0 0 _
    refine ST.lift (fun _ _ k => T_goto (tgt := 44) d_PG_answer_40 rfl k) ?_
    exact S_ret d_PG_answer_44 rfl rfl (by decide) (by decide) (hQ _ _ hv8 hm11)
set_option maxRecDepth 100000 in
set_option maxHeartbeats 4000000 in
theorem c_PG_finish_0 (G : GX) (v : Nat → Int32) (hv : okv v) : CS G mi_PG_finish [.ref 61, .int (nI 0)] v (fun r v' => ∃ z : Int32, r = some (.int z) ∧ okv v' ∧ mdf [1, 2, 3, 4, 5, 6, 7, 8, 9, 10, 11, 12, 13, 14, 15, 16, 17, 18, 19, 20, 21, 22, 23, 24, 25, 26, 27, 28, 29, 30, 31, 32, 33, 34, 35, 36, 37, 38, 39, 40, 41, 42, 43, 44, 45, 46, 47, 48, 49, 50, 51, 52, 53, 54, 55, 56, 57, 58, 59, 60, 61, 62, 63, 65, 76, 77, 78, 79, 80, 81, 82, 83, 84, 85, 86, 87] v v') := by
  refine CS.of (by decide) (Nat.le_of_ble_eq_true rfl) ?_
  generalize hQe : (fun (r : Option Value) (v' : Nat → Int32) => ∃ z : Int32, r = some (.int z) ∧ okv v' ∧ mdf [1, 2, 3, 4, 5, 6, 7, 8, 9, 10, 11, 12, 13, 14, 15, 16, 17, 18, 19, 20, 21, 22, 23, 24, 25, 26, 27, 28, 29, 30, 31, 32, 33, 34, 35, 36, 37, 38, 39, 40, 41, 42, 43, 44, 45, 46, 47, 48, 49, 50, 51, 52, 53, 54, 55, 56, 57, 58, 59, 60, 61, 62, 63, 65, 76, 77, 78, 79, 80, 81, 82, 83, 84, 85, 86, 87] v v') = Q
  have hQ : ∀ (z : Int32) (u : Nat → Int32), okv u → mdf [1, 2, 3, 4, 5, 6, 7, 8, 9, 10, 11, 12, 13, 14, 15, 16, 17, 18, 19, 20, 21, 22, 23, 24, 25, 26, 27, 28, 29, 30, 31, 32, 33, 34, 35, 36, 37, 38, 39, 40, 41, 42, 43, 44, 45, 46, 47, 48, 49, 50, 51, 52, 53, 54, 55, 56, 57, 58, 59, 60, 61, 62, 63, 65, 76, 77, 78, 79, 80, 81, 82, 83, 84, 85, 86, 87] v u → Q (some (.int z)) u := by rw [← hQe]; exact fun z u h1 h2  => ⟨z, rfl, h1, h2⟩
  clear hQe
  have hm : mdf [1, 2, 3, 4, 5, 6, 7, 8, 9, 10, 11, 12, 13, 14, 15, 16, 17, 18, 19, 20, 21, 22, 23, 24, 25, 26, 27, 28, 29, 30, 31, 32, 33, 34, 35, 36, 37, 38, 39, 40, 41, 42, 43, 44, 45, 46, 47, 48, 49, 50, 51, 52, 53, 54, 55, 56, 57, 58, 59, 60, 61, 62, 63, 65, 76, 77, 78, 79, 80, 81, 82, 83, 84, 85, 86, 87] v v := mdf.rf
  show ST G mi_PG_finish 0 [(0, .ref 61), (1, .int (nI 0))] [] v 0 0 Q
  refine ST.lift (fun _ _ k => T_iload_n d_PG_finish_0 rfl k) ?_
  refine S_static (as := [.int (nI 0)]) (rest := []) d_PG_finish_1 rfl (jw_PG_isSession.jo (by decide)) lm_PG_133 jt_PG_isSession rfl (Nat.le_of_ble_eq_true rfl) (by decide) (by decide) (c_PG_isSession G v 0 (by omega)) (fun r v' hq => ?_)
  rw [hq.1, hq.2]
  clear hq r v'
  show ST G mi_PG_finish 4 [(0, .ref 61), (1, .int (nI 0))] [.int (nI 1)] v 0 0 _
  refine S_if_neN d_PG_finish_4 rfl (by omega) (fun _ => ?_) (fun c => by first | exact absurd c (by omega) | exact c.elim | exact absurd c (by decide) | exact absurd (by assumption) c | exact absurd c (by assumption))
  refine ST.lift (fun _ _ k => T_aload_n (v := .ref 61) d_PG_finish_9 rfl (Or.inr ⟨_, rfl⟩) k) ?_
  refine S_getfield d_PG_finish_10 fg_PG_34 (w61 _) rfl ?_
  refine ST.lift (fun _ _ k => T_iload_n d_PG_finish_13 rfl k) ?_
  refine S_aaload (C0 := "PasswordGate$Session") d_PG_finish_14 (by decide) (w264 _) rfl (vp_in_nI (by omega) (by omega)) ?_
  refine ST.lift (fun _ _ k => T_astore_n (L' := [(2, .ref 265), (0, .ref 61), (1, .int (nI 0))]) d_PG_finish_15 (by decide) rfl (Or.inr ⟨_, rfl⟩) k) ?_
  refine ST.lift (fun _ _ k => T_aload_n (v := .ref 265) d_PG_finish_16 rfl (Or.inr ⟨_, rfl⟩) k) ?_
  refine ST.lift (fun _ _ k => T_iconst (v := nI 1) d_PG_finish_17 (by decide) k) ?_
  refine S_virtual (as := [.int (nI 1)]) (rest := []) (b := 265) d_PG_finish_18 rfl (jw_Ss_take.jo (by decide)) lm_PG_139 ji_Ss_take js_Ss_take (w265 _) rfl rfl rfl (Nat.le_of_ble_eq_true rfl) (by decide) (by decide) (c_Ss_take_265_1 G v hv) (fun r u1 hq => ?_)
  obtain ⟨z4, hz4, hr, hv2, hm3⟩ := hq
  rw [hr]
  clear hr r
  have hm5 := hm.go hm3 (by intro i hi; simp only [List.mem_cons, List.not_mem_nil, or_false] at hi ⊢ <;> omega)
  show ST G mi_PG_finish 21 [(2, .ref 265), (0, .ref 61), (1, .int (nI 0))] [.int (nI z4)] u1 0 0 _
  refine S_if_eqN d_PG_finish_21 rfl (by omega) (fun c6 => ?_) (fun c6 => ?_)
  · refine ST.lift (fun _ _ k => T_iconst (v := nI 2) d_PG_finish_39 (by decide) k) ?_
    exact S_ret d_PG_finish_40 rfl rfl (by decide) (by decide) (hQ _ _ hv2 hm5)
  · refine ST.lift (fun _ _ k => T_aload_n (v := .ref 265) d_PG_finish_24 rfl (Or.inr ⟨_, rfl⟩) k) ?_
    refine ST.lift (fun _ _ k => T_aload_n (v := .ref 61) d_PG_finish_25 rfl (Or.inr ⟨_, rfl⟩) k) ?_
    refine S_getfield d_PG_finish_26 fg_PG_12 (w61 _) rfl ?_
    refine ST.lift (fun _ _ k => T_aload_n (v := .ref 61) d_PG_finish_29 rfl (Or.inr ⟨_, rfl⟩) k) ?_
    refine S_getfield d_PG_finish_30 fg_PG_21 (w61 _) rfl ?_
    refine S_virtual (as := [.ref 62, .ref 217]) (rest := []) (b := 265) d_PG_finish_33 rfl (jw_Ss_confirmServer.jo (by decide)) lm_PG_146 ji_Ss_confirmServer js_Ss_confirmServer (w265 _) rfl rfl rfl (Nat.le_of_ble_eq_true rfl) (by decide) (by decide) (c_Ss_confirmServer_265 G u1 hv2) (fun r u7 hq => ?_)
    obtain ⟨z10, hr, hv8, hm9⟩ := hq
    rw [hr]
    clear hr r
    have hm11 := hm5.go hm9 (by intro i hi; simp only [List.mem_cons, List.not_mem_nil, or_false] at hi ⊢ <;> omega)
    show ST G mi_PG_finish 36 [(2, .ref 265), (0, .ref 61), (1, .int (nI 0))] [.int z10] u7 0 0 _
    refine ST.lift (fun _ _ k => T_goto (tgt := 40) d_PG_finish_36 rfl k) ?_
    exact S_ret d_PG_finish_40 rfl rfl (by decide) (by decide) (hQ _ _ hv8 hm11)
set_option maxRecDepth 100000 in
set_option maxHeartbeats 4000000 in
theorem c_PG_accept_0 (G : GX) (v : Nat → Int32) (hv : okv v) : CS G mi_PG_accept [.ref 61, .int (nI 0)] v (fun r v' => ∃ z : Int32, r = some (.int z) ∧ okv v' ∧ mdf [1, 2, 3, 4, 5, 6, 7, 8, 9, 10, 11, 12, 13, 14, 15, 16, 17, 18, 19, 20, 21, 22, 23, 24, 25, 26, 27, 28, 29, 30, 31, 32, 33, 34, 35, 36, 37, 38, 39, 40, 41, 42, 43, 44, 45, 46, 47, 48, 49, 50, 51, 52, 53, 54, 55, 56, 57, 58, 59, 60, 61, 62, 63, 65, 76, 77, 78, 79, 80, 81, 82, 83, 84, 85, 86, 87] v v') := by
  refine CS.of (by decide) (Nat.le_of_ble_eq_true rfl) ?_
  generalize hQe : (fun (r : Option Value) (v' : Nat → Int32) => ∃ z : Int32, r = some (.int z) ∧ okv v' ∧ mdf [1, 2, 3, 4, 5, 6, 7, 8, 9, 10, 11, 12, 13, 14, 15, 16, 17, 18, 19, 20, 21, 22, 23, 24, 25, 26, 27, 28, 29, 30, 31, 32, 33, 34, 35, 36, 37, 38, 39, 40, 41, 42, 43, 44, 45, 46, 47, 48, 49, 50, 51, 52, 53, 54, 55, 56, 57, 58, 59, 60, 61, 62, 63, 65, 76, 77, 78, 79, 80, 81, 82, 83, 84, 85, 86, 87] v v') = Q
  have hQ : ∀ (z : Int32) (u : Nat → Int32), okv u → mdf [1, 2, 3, 4, 5, 6, 7, 8, 9, 10, 11, 12, 13, 14, 15, 16, 17, 18, 19, 20, 21, 22, 23, 24, 25, 26, 27, 28, 29, 30, 31, 32, 33, 34, 35, 36, 37, 38, 39, 40, 41, 42, 43, 44, 45, 46, 47, 48, 49, 50, 51, 52, 53, 54, 55, 56, 57, 58, 59, 60, 61, 62, 63, 65, 76, 77, 78, 79, 80, 81, 82, 83, 84, 85, 86, 87] v u → Q (some (.int z)) u := by rw [← hQe]; exact fun z u h1 h2  => ⟨z, rfl, h1, h2⟩
  clear hQe
  have hm : mdf [1, 2, 3, 4, 5, 6, 7, 8, 9, 10, 11, 12, 13, 14, 15, 16, 17, 18, 19, 20, 21, 22, 23, 24, 25, 26, 27, 28, 29, 30, 31, 32, 33, 34, 35, 36, 37, 38, 39, 40, 41, 42, 43, 44, 45, 46, 47, 48, 49, 50, 51, 52, 53, 54, 55, 56, 57, 58, 59, 60, 61, 62, 63, 65, 76, 77, 78, 79, 80, 81, 82, 83, 84, 85, 86, 87] v v := mdf.rf
  show ST G mi_PG_accept 0 [(0, .ref 61), (1, .int (nI 0))] [] v 0 0 Q
  refine ST.lift (fun _ _ k => T_iload_n d_PG_accept_0 rfl k) ?_
  refine S_static (as := [.int (nI 0)]) (rest := []) d_PG_accept_1 rfl (jw_PG_isSession.jo (by decide)) lm_PG_133 jt_PG_isSession rfl (Nat.le_of_ble_eq_true rfl) (by decide) (by decide) (c_PG_isSession G v 0 (by omega)) (fun r v' hq => ?_)
  rw [hq.1, hq.2]
  clear hq r v'
  show ST G mi_PG_accept 4 [(0, .ref 61), (1, .int (nI 0))] [.int (nI 1)] v 0 0 _
  refine S_if_neN d_PG_accept_4 rfl (by omega) (fun _ => ?_) (fun c => by first | exact absurd c (by omega) | exact c.elim | exact absurd c (by decide) | exact absurd (by assumption) c | exact absurd c (by assumption))
  refine ST.lift (fun _ _ k => T_aload_n (v := .ref 61) d_PG_accept_9 rfl (Or.inr ⟨_, rfl⟩) k) ?_
  refine S_getfield d_PG_accept_10 fg_PG_34 (w61 _) rfl ?_
  refine ST.lift (fun _ _ k => T_iload_n d_PG_accept_13 rfl k) ?_
  refine S_aaload (C0 := "PasswordGate$Session") d_PG_accept_14 (by decide) (w264 _) rfl (vp_in_nI (by omega) (by omega)) ?_
  refine ST.lift (fun _ _ k => T_astore_n (L' := [(2, .ref 265), (0, .ref 61), (1, .int (nI 0))]) d_PG_accept_15 (by decide) rfl (Or.inr ⟨_, rfl⟩) k) ?_
  refine ST.lift (fun _ _ k => T_aload_n (v := .ref 265) d_PG_accept_16 rfl (Or.inr ⟨_, rfl⟩) k) ?_
  refine ST.lift (fun _ _ k => T_iconst (v := nI 2) d_PG_accept_17 (by decide) k) ?_
  refine S_virtual (as := [.int (nI 2)]) (rest := []) (b := 265) d_PG_accept_18 rfl (jw_Ss_take.jo (by decide)) lm_PG_139 ji_Ss_take js_Ss_take (w265 _) rfl rfl rfl (Nat.le_of_ble_eq_true rfl) (by decide) (by decide) (c_Ss_take_265_2 G v hv) (fun r u1 hq => ?_)
  obtain ⟨z4, hz4, hr, hv2, hm3⟩ := hq
  rw [hr]
  clear hr r
  have hm5 := hm.go hm3 (by intro i hi; simp only [List.mem_cons, List.not_mem_nil, or_false] at hi ⊢ <;> omega)
  show ST G mi_PG_accept 21 [(2, .ref 265), (0, .ref 61), (1, .int (nI 0))] [.int (nI z4)] u1 0 0 _
  refine S_if_eqN d_PG_accept_21 rfl (by omega) (fun c6 => ?_) (fun c6 => ?_)
  · refine ST.lift (fun _ _ k => T_iconst (v := nI 2) d_PG_accept_31 (by decide) k) ?_
    exact S_ret d_PG_accept_32 rfl rfl (by decide) (by decide) (hQ _ _ hv2 hm5)
  · refine ST.lift (fun _ _ k => T_aload_n (v := .ref 265) d_PG_accept_24 rfl (Or.inr ⟨_, rfl⟩) k) ?_
    refine S_virtual (as := []) (rest := []) (b := 265) d_PG_accept_25 rfl (jw_Ss_confirmClient.jo (by decide)) lm_PG_150 ji_Ss_confirmClient js_Ss_confirmClient (w265 _) rfl rfl rfl (Nat.le_of_ble_eq_true rfl) (by decide) (by decide) (c_Ss_confirmClient_265 G u1 hv2) (fun r u7 hq => ?_)
    obtain ⟨z10, hr, hv8, hm9⟩ := hq
    rw [hr]
    clear hr r
    have hm11 := hm5.go hm9 (by intro i hi; simp only [List.mem_cons, List.not_mem_nil, or_false] at hi ⊢ <;> omega)
    show ST G mi_PG_accept 28 [(2, .ref 265), (0, .ref 61), (1, .int (nI 0))] [.int z10] u7 0 0 _
    refine ST.lift (fun _ _ k => T_goto (tgt := 32) d_PG_accept_28 rfl k) ?_
    exact S_ret d_PG_accept_32 rfl rfl (by decide) (by decide) (hQ _ _ hv8 hm11)
set_option maxRecDepth 100000 in
set_option maxHeartbeats 4000000 in
theorem c_PG_begin_1 (G : GX) (v : Nat → Int32) (usr : Nat) (b_usr : usr ≤ 7) (hv : okv v) : CS G mi_PG_begin [.ref 61, .int (nI 1), .int (nI usr)] v (fun r v' => r = some (.int (nI 0)) ∧ okv v' ∧ mdf [1, 2, 3, 4, 5, 6, 7, 8, 9, 10, 11, 12, 13, 14, 15, 16, 17, 18, 19, 20, 21, 22, 23, 24, 25, 26, 27, 28, 29, 30, 31, 32, 33, 34, 35, 36, 37, 38, 39, 40, 41, 42, 43, 44, 45, 46, 47, 48, 49, 50, 51, 52, 53, 54, 55, 56, 57, 58, 59, 60, 61, 62, 63, 64, 65, 76, 77, 78, 79, 80, 81, 82, 83, 84, 85, 86, 87] v v' ∧ v' 64 = nI 0) := by
  refine CS.of (by decide) (Nat.le_of_ble_eq_true rfl) ?_
  generalize hQe : (fun (r : Option Value) (v' : Nat → Int32) => r = some (.int (nI 0)) ∧ okv v' ∧ mdf [1, 2, 3, 4, 5, 6, 7, 8, 9, 10, 11, 12, 13, 14, 15, 16, 17, 18, 19, 20, 21, 22, 23, 24, 25, 26, 27, 28, 29, 30, 31, 32, 33, 34, 35, 36, 37, 38, 39, 40, 41, 42, 43, 44, 45, 46, 47, 48, 49, 50, 51, 52, 53, 54, 55, 56, 57, 58, 59, 60, 61, 62, 63, 64, 65, 76, 77, 78, 79, 80, 81, 82, 83, 84, 85, 86, 87] v v' ∧ v' 64 = nI 0) = Q
  have hQ : ∀ u, okv u → mdf [1, 2, 3, 4, 5, 6, 7, 8, 9, 10, 11, 12, 13, 14, 15, 16, 17, 18, 19, 20, 21, 22, 23, 24, 25, 26, 27, 28, 29, 30, 31, 32, 33, 34, 35, 36, 37, 38, 39, 40, 41, 42, 43, 44, 45, 46, 47, 48, 49, 50, 51, 52, 53, 54, 55, 56, 57, 58, 59, 60, 61, 62, 63, 64, 65, 76, 77, 78, 79, 80, 81, 82, 83, 84, 85, 86, 87] v u → u 64 = nI 0 → Q (some (.int (nI 0))) u := by rw [← hQe]; exact fun u h1 h2 f0 => ⟨rfl, h1, h2, f0⟩
  clear hQe
  have hm : mdf [1, 2, 3, 4, 5, 6, 7, 8, 9, 10, 11, 12, 13, 14, 15, 16, 17, 18, 19, 20, 21, 22, 23, 24, 25, 26, 27, 28, 29, 30, 31, 32, 33, 34, 35, 36, 37, 38, 39, 40, 41, 42, 43, 44, 45, 46, 47, 48, 49, 50, 51, 52, 53, 54, 55, 56, 57, 58, 59, 60, 61, 62, 63, 64, 65, 76, 77, 78, 79, 80, 81, 82, 83, 84, 85, 86, 87] v v := mdf.rf
  show ST G mi_PG_begin 0 [(0, .ref 61), (1, .int (nI 1)), (2, .int (nI usr))] [] v 0 0 Q
  refine ST.lift (fun _ _ k => T_iload_n d_PG_begin_0 rfl k) ?_
  refine S_static (as := [.int (nI 1)]) (rest := []) d_PG_begin_1 rfl (jw_PG_isSession.jo (by decide)) lm_PG_133 jt_PG_isSession rfl (Nat.le_of_ble_eq_true rfl) (by decide) (by decide) (c_PG_isSession G v 1 (by omega)) (fun r v' hq => ?_)
  rw [hq.1, hq.2]
  clear hq r v'
  show ST G mi_PG_begin 4 [(0, .ref 61), (1, .int (nI 1)), (2, .int (nI usr))] [.int (nI 1)] v 0 0 _
  refine S_if_eqN d_PG_begin_4 rfl (by omega) (fun c => by first | exact absurd c (by omega) | exact c.elim | exact absurd c (by decide) | exact absurd (by assumption) c | exact absurd c (by assumption)) (fun _ => ?_)
  refine ST.lift (fun _ _ k => T_iload_n d_PG_begin_7 rfl k) ?_
  refine S_static (as := [.int (nI usr)]) (rest := []) d_PG_begin_8 rfl (jw_PG_isUser.jo (by decide)) lm_PG_126 jt_PG_isUser rfl (Nat.le_of_ble_eq_true rfl) (by decide) (by decide) (c_PG_isUser G v usr (by omega)) (fun r v' hq => ?_)
  rw [hq.1, hq.2]
  clear hq r v'
  show ST G mi_PG_begin 11 [(0, .ref 61), (1, .int (nI 1)), (2, .int (nI usr))] [.int (nI 1)] v 0 0 _
  refine S_if_eqN d_PG_begin_11 rfl (by omega) (fun c => by first | exact absurd c (by omega) | exact c.elim | exact absurd c (by decide) | exact absurd (by assumption) c | exact absurd c (by assumption)) (fun _ => ?_)
  refine ST.lift (fun _ _ k => T_iconst (v := nI 1) d_PG_begin_14 (by decide) k) ?_
  refine ST.lift (fun _ _ k => T_goto (tgt := 19) d_PG_begin_15 rfl k) ?_
  refine ST.lift (fun _ _ k => T_istore_n (L' := [(3, .int (nI 1)), (0, .ref 61), (1, .int (nI 1)), (2, .int (nI usr))]) d_PG_begin_19 (by decide) rfl k) ?_
  refine ST.lift (fun _ _ k => T_iload_n d_PG_begin_20 rfl k) ?_
  refine S_if_eqN d_PG_begin_21 rfl (by omega) (fun c => by first | exact absurd c (by omega) | exact c.elim | exact absurd c (by decide) | exact absurd (by assumption) c | exact absurd c (by assumption)) (fun _ => ?_)
  refine ST.lift (fun _ _ k => T_aload_n (v := .ref 61) d_PG_begin_24 rfl (Or.inr ⟨_, rfl⟩) k) ?_
  refine S_getfield d_PG_begin_25 fg_PG_34 (w61 _) rfl ?_
  refine ST.lift (fun _ _ k => T_iload_n d_PG_begin_28 rfl k) ?_
  refine S_aaload (C0 := "PasswordGate$Session") d_PG_begin_29 (by decide) (w264 _) rfl (vp_in_nI (by omega) (by omega)) ?_
  refine ST.lift (fun _ _ k => T_aload_n (v := .ref 61) d_PG_begin_30 rfl (Or.inr ⟨_, rfl⟩) k) ?_
  refine S_getfield d_PG_begin_31 fg_PG_12 (w61 _) rfl ?_
  refine ST.lift (fun _ _ k => T_iload_n d_PG_begin_34 rfl k) ?_
  refine ST.lift (fun _ _ k => T_aload_n (v := .ref 61) d_PG_begin_35 rfl (Or.inr ⟨_, rfl⟩) k) ?_
  refine S_getfield d_PG_begin_36 fg_PG_42 (w61 _) rfl ?_
  refine S_virtual (as := [.ref 62, .int (nI usr), .ref 369]) (rest := []) (b := 291) d_PG_begin_39 rfl (jw_Ss_start.jo (by decide)) lm_PG_136 ji_Ss_start js_Ss_start (w291 _) rfl rfl rfl (Nat.le_of_ble_eq_true rfl) (by decide) (by decide) (c_Ss_start_291 G v usr (by omega) 369 370 200 64 ⟨w369, a370, by decide, u369_1, by decide, by decide⟩ hv) (fun r u1 hq => ?_)
  obtain ⟨hr, hv2, hm3⟩ := hq
  rw [hr]
  clear hr r
  have hm4 := hm.go hm3 (by intro i hi; simp only [List.mem_cons, List.not_mem_nil, or_false] at hi ⊢ <;> omega)
  show ST G mi_PG_begin 42 [(3, .int (nI 1)), (0, .ref 61), (1, .int (nI 1)), (2, .int (nI usr))] [] u1 0 0 _
  refine ST.lift (fun _ _ k => T_aload_n (v := .ref 61) d_PG_begin_42 rfl (Or.inr ⟨_, rfl⟩) k) ?_
  refine S_getfield d_PG_begin_43 fg_PG_42 (w61 _) rfl ?_
  refine S_virtual (as := []) (rest := []) (b := 369) d_PG_begin_46 rfl (jw_By_clear.jo (by decide)) lm_PG_71 ji_By_clear js_By_clear (w369 _) rfl rfl rfl (Nat.le_of_ble_eq_true rfl) (by decide) (by decide) (c_By_clear G u1 369 370 200 64 ⟨w369, a370, by decide, u369_1, by decide, by decide⟩ hv2) (fun r v' hq => ?_)
  rw [hq.1, hq.2]
  clear hq r v'
  show ST G mi_PG_begin 49 [(3, .int (nI 1)), (0, .ref 61), (1, .int (nI 1)), (2, .int (nI usr))] [] (va_up u1 64 (nI 0)) 0 0 _
  have hv6 := hv2.up (j := 64) (c := 200) (k := 0) (by decide) (by omega)
  have hm7 := hm4.go (mdf.up (v := u1) (j := 64) (x := (nI 0))) (by intro i hi; simp only [List.mem_cons, List.not_mem_nil, or_false] at hi ⊢ <;> omega)
  have e_u5 : (va_up u1 64 (nI 0)) 64 = (nI 0) := by simp [va_up]
  generalize va_up u1 64 (nI 0) = u5 at hv6 hm7 e_u5 ⊢
  refine ST.lift (fun _ _ k => T_iload_n d_PG_begin_49 rfl k) ?_
  refine S_if_eqN d_PG_begin_50 rfl (by omega) (fun c => by first | exact absurd c (by omega) | exact c.elim | exact absurd c (by decide) | exact absurd (by assumption) c | exact absurd c (by assumption)) (fun _ => ?_)
  refine ST.lift (fun _ _ k => T_iconst (v := nI 0) d_PG_begin_53 (by decide) k) ?_
  refine ST.lift (fun _ _ k => T_goto (tgt := 58) d_PG_begin_54 rfl k) ?_
  refine S_topi (y := nI 0) (congrArg nI (by omega)) ?_
  exact S_ret d_PG_begin_58 rfl rfl (by decide) (by decide) (hQ _ hv6 hm7 (e_u5.trans (congrArg nI (by omega))))
set_option maxRecDepth 100000 in
set_option maxHeartbeats 4000000 in
theorem c_PG_begin_1_neg (G : GX) (v : Nat → Int32) (x : Int32) (hx_u : x < 0) (hv : okv v) : CS G mi_PG_begin [.ref 61, .int (nI 1), .int x] v (fun r v' => r = some (.int (-1)) ∧ okv v' ∧ mdf [64] v v' ∧ v' 64 = nI 0) := by
  refine CS.of (by decide) (Nat.le_of_ble_eq_true rfl) ?_
  generalize hQe : (fun (r : Option Value) (v' : Nat → Int32) => r = some (.int (-1)) ∧ okv v' ∧ mdf [64] v v' ∧ v' 64 = nI 0) = Q
  have hQ : ∀ u, okv u → mdf [64] v u → u 64 = nI 0 → Q (some (.int (-1))) u := by rw [← hQe]; exact fun u h1 h2 f0 => ⟨rfl, h1, h2, f0⟩
  clear hQe
  have hm : mdf [64] v v := mdf.rf
  show ST G mi_PG_begin 0 [(0, .ref 61), (1, .int (nI 1)), (2, .int x)] [] v 0 0 Q
  refine ST.lift (fun _ _ k => T_iload_n d_PG_begin_0 rfl k) ?_
  refine S_static (as := [.int (nI 1)]) (rest := []) d_PG_begin_1 rfl (jw_PG_isSession.jo (by decide)) lm_PG_133 jt_PG_isSession rfl (Nat.le_of_ble_eq_true rfl) (by decide) (by decide) (c_PG_isSession G v 1 (by omega)) (fun r v' hq => ?_)
  rw [hq.1, hq.2]
  clear hq r v'
  show ST G mi_PG_begin 4 [(0, .ref 61), (1, .int (nI 1)), (2, .int x)] [.int (nI 1)] v 0 0 _
  refine S_if_eqN d_PG_begin_4 rfl (by omega) (fun c => by first | exact absurd c (by omega) | exact c.elim | exact absurd c (by decide) | exact absurd (by assumption) c | exact absurd c (by assumption)) (fun _ => ?_)
  refine ST.lift (fun _ _ k => T_iload_n d_PG_begin_7 rfl k) ?_
  refine S_static (as := [.int x]) (rest := []) d_PG_begin_8 rfl (jw_PG_isUser.jo (by decide)) lm_PG_126 jt_PG_isUser rfl (Nat.le_of_ble_eq_true rfl) (by decide) (by decide) (c_PG_isUser_neg G v x hx_u) (fun r v' hq => ?_)
  rw [hq.1, hq.2]
  clear hq r v'
  show ST G mi_PG_begin 11 [(0, .ref 61), (1, .int (nI 1)), (2, .int x)] [.int (nI 0)] v 0 0 _
  refine S_if_eqN d_PG_begin_11 rfl (by omega) (fun _ => ?_) (fun c => by first | exact absurd c (by omega) | exact c.elim | exact absurd c (by decide) | exact absurd (by assumption) c | exact absurd c (by assumption))
  refine ST.lift (fun _ _ k => T_iconst (v := nI 0) d_PG_begin_18 (by decide) k) ?_
  refine ST.lift (fun _ _ k => T_istore_n (L' := [(3, .int (nI 0)), (0, .ref 61), (1, .int (nI 1)), (2, .int x)]) d_PG_begin_19 (by decide) rfl k) ?_
  refine ST.lift (fun _ _ k => T_iload_n d_PG_begin_20 rfl k) ?_
  refine S_if_eqN d_PG_begin_21 rfl (by omega) (fun _ => ?_) (fun c => by first | exact absurd c (by omega) | exact c.elim | exact absurd c (by decide) | exact absurd (by assumption) c | exact absurd c (by assumption))
  refine ST.lift (fun _ _ k => T_aload_n (v := .ref 61) d_PG_begin_42 rfl (Or.inr ⟨_, rfl⟩) k) ?_
  refine S_getfield d_PG_begin_43 fg_PG_42 (w61 _) rfl ?_
  refine S_virtual (as := []) (rest := []) (b := 369) d_PG_begin_46 rfl (jw_By_clear.jo (by decide)) lm_PG_71 ji_By_clear js_By_clear (w369 _) rfl rfl rfl (Nat.le_of_ble_eq_true rfl) (by decide) (by decide) (c_By_clear G v 369 370 200 64 ⟨w369, a370, by decide, u369_1, by decide, by decide⟩ hv) (fun r v' hq => ?_)
  rw [hq.1, hq.2]
  clear hq r v'
  show ST G mi_PG_begin 49 [(3, .int (nI 0)), (0, .ref 61), (1, .int (nI 1)), (2, .int x)] [] (va_up v 64 (nI 0)) 0 0 _
  have hv2 := hv.up (j := 64) (c := 200) (k := 0) (by decide) (by omega)
  have hm3 := hm.go (mdf.up (v := v) (j := 64) (x := (nI 0))) (by intro i hi; simp only [List.mem_cons, List.not_mem_nil, or_false] at hi ⊢ <;> omega)
  have e_u1 : (va_up v 64 (nI 0)) 64 = (nI 0) := by simp [va_up]
  generalize va_up v 64 (nI 0) = u1 at hv2 hm3 e_u1 ⊢
  refine ST.lift (fun _ _ k => T_iload_n d_PG_begin_49 rfl k) ?_
  refine S_if_eqN d_PG_begin_50 rfl (by omega) (fun _ => ?_) (fun c => by first | exact absurd c (by omega) | exact c.elim | exact absurd c (by decide) | exact absurd (by assumption) c | exact absurd c (by assumption))
  refine ST.lift (fun _ _ k => T_iconst (v := -1) d_PG_begin_57 (by decide) k) ?_
  exact S_ret d_PG_begin_58 rfl rfl (by decide) (by decide) (hQ _ hv2 hm3 (e_u1.trans (congrArg nI (by omega))))
set_option maxRecDepth 100000 in
set_option maxHeartbeats 4000000 in
theorem c_PG_begin_1_big (G : GX) (v : Nat → Int32) (x : Int32) (h0_u : ¬ x < 0) (hx_u : nI 8 ≤ x) (hv : okv v) : CS G mi_PG_begin [.ref 61, .int (nI 1), .int x] v (fun r v' => r = some (.int (-1)) ∧ okv v' ∧ mdf [64] v v' ∧ v' 64 = nI 0) := by
  refine CS.of (by decide) (Nat.le_of_ble_eq_true rfl) ?_
  generalize hQe : (fun (r : Option Value) (v' : Nat → Int32) => r = some (.int (-1)) ∧ okv v' ∧ mdf [64] v v' ∧ v' 64 = nI 0) = Q
  have hQ : ∀ u, okv u → mdf [64] v u → u 64 = nI 0 → Q (some (.int (-1))) u := by rw [← hQe]; exact fun u h1 h2 f0 => ⟨rfl, h1, h2, f0⟩
  clear hQe
  have hm : mdf [64] v v := mdf.rf
  show ST G mi_PG_begin 0 [(0, .ref 61), (1, .int (nI 1)), (2, .int x)] [] v 0 0 Q
  refine ST.lift (fun _ _ k => T_iload_n d_PG_begin_0 rfl k) ?_
  refine S_static (as := [.int (nI 1)]) (rest := []) d_PG_begin_1 rfl (jw_PG_isSession.jo (by decide)) lm_PG_133 jt_PG_isSession rfl (Nat.le_of_ble_eq_true rfl) (by decide) (by decide) (c_PG_isSession G v 1 (by omega)) (fun r v' hq => ?_)
  rw [hq.1, hq.2]
  clear hq r v'
  show ST G mi_PG_begin 4 [(0, .ref 61), (1, .int (nI 1)), (2, .int x)] [.int (nI 1)] v 0 0 _
  refine S_if_eqN d_PG_begin_4 rfl (by omega) (fun c => by first | exact absurd c (by omega) | exact c.elim | exact absurd c (by decide) | exact absurd (by assumption) c | exact absurd c (by assumption)) (fun _ => ?_)
  refine ST.lift (fun _ _ k => T_iload_n d_PG_begin_7 rfl k) ?_
  refine S_static (as := [.int x]) (rest := []) d_PG_begin_8 rfl (jw_PG_isUser.jo (by decide)) lm_PG_126 jt_PG_isUser rfl (Nat.le_of_ble_eq_true rfl) (by decide) (by decide) (c_PG_isUser_big G v x h0_u hx_u) (fun r v' hq => ?_)
  rw [hq.1, hq.2]
  clear hq r v'
  show ST G mi_PG_begin 11 [(0, .ref 61), (1, .int (nI 1)), (2, .int x)] [.int (nI 0)] v 0 0 _
  refine S_if_eqN d_PG_begin_11 rfl (by omega) (fun _ => ?_) (fun c => by first | exact absurd c (by omega) | exact c.elim | exact absurd c (by decide) | exact absurd (by assumption) c | exact absurd c (by assumption))
  refine ST.lift (fun _ _ k => T_iconst (v := nI 0) d_PG_begin_18 (by decide) k) ?_
  refine ST.lift (fun _ _ k => T_istore_n (L' := [(3, .int (nI 0)), (0, .ref 61), (1, .int (nI 1)), (2, .int x)]) d_PG_begin_19 (by decide) rfl k) ?_
  refine ST.lift (fun _ _ k => T_iload_n d_PG_begin_20 rfl k) ?_
  refine S_if_eqN d_PG_begin_21 rfl (by omega) (fun _ => ?_) (fun c => by first | exact absurd c (by omega) | exact c.elim | exact absurd c (by decide) | exact absurd (by assumption) c | exact absurd c (by assumption))
  refine ST.lift (fun _ _ k => T_aload_n (v := .ref 61) d_PG_begin_42 rfl (Or.inr ⟨_, rfl⟩) k) ?_
  refine S_getfield d_PG_begin_43 fg_PG_42 (w61 _) rfl ?_
  refine S_virtual (as := []) (rest := []) (b := 369) d_PG_begin_46 rfl (jw_By_clear.jo (by decide)) lm_PG_71 ji_By_clear js_By_clear (w369 _) rfl rfl rfl (Nat.le_of_ble_eq_true rfl) (by decide) (by decide) (c_By_clear G v 369 370 200 64 ⟨w369, a370, by decide, u369_1, by decide, by decide⟩ hv) (fun r v' hq => ?_)
  rw [hq.1, hq.2]
  clear hq r v'
  show ST G mi_PG_begin 49 [(3, .int (nI 0)), (0, .ref 61), (1, .int (nI 1)), (2, .int x)] [] (va_up v 64 (nI 0)) 0 0 _
  have hv2 := hv.up (j := 64) (c := 200) (k := 0) (by decide) (by omega)
  have hm3 := hm.go (mdf.up (v := v) (j := 64) (x := (nI 0))) (by intro i hi; simp only [List.mem_cons, List.not_mem_nil, or_false] at hi ⊢ <;> omega)
  have e_u1 : (va_up v 64 (nI 0)) 64 = (nI 0) := by simp [va_up]
  generalize va_up v 64 (nI 0) = u1 at hv2 hm3 e_u1 ⊢
  refine ST.lift (fun _ _ k => T_iload_n d_PG_begin_49 rfl k) ?_
  refine S_if_eqN d_PG_begin_50 rfl (by omega) (fun _ => ?_) (fun c => by first | exact absurd c (by omega) | exact c.elim | exact absurd c (by decide) | exact absurd (by assumption) c | exact absurd c (by assumption))
  refine ST.lift (fun _ _ k => T_iconst (v := -1) d_PG_begin_57 (by decide) k) ?_
  exact S_ret d_PG_begin_58 rfl rfl (by decide) (by decide) (hQ _ hv2 hm3 (e_u1.trans (congrArg nI (by omega))))
set_option maxRecDepth 100000 in
set_option maxHeartbeats 4000000 in
theorem c_PG_answer_1 (G : GX) (v : Nat → Int32) (hv : okv v) : CS G mi_PG_answer [.ref 61, .int (nI 1)] v (fun r v' => ∃ z : Int32, r = some (.int z) ∧ okv v' ∧ mdf [1, 2, 3, 4, 5, 6, 7, 8, 9, 10, 11, 12, 13, 14, 15, 16, 17, 18, 19, 20, 21, 22, 23, 24, 25, 26, 27, 28, 29, 30, 31, 32, 33, 34, 35, 36, 37, 38, 39, 40, 41, 42, 43, 44, 45, 46, 47, 48, 49, 50, 51, 52, 53, 54, 55, 56, 57, 58, 59, 60, 61, 62, 63, 65, 76, 77, 78, 79, 80, 81, 82, 83, 84, 85, 86, 87] v v') := by
  refine CS.of (by decide) (Nat.le_of_ble_eq_true rfl) ?_
  generalize hQe : (fun (r : Option Value) (v' : Nat → Int32) => ∃ z : Int32, r = some (.int z) ∧ okv v' ∧ mdf [1, 2, 3, 4, 5, 6, 7, 8, 9, 10, 11, 12, 13, 14, 15, 16, 17, 18, 19, 20, 21, 22, 23, 24, 25, 26, 27, 28, 29, 30, 31, 32, 33, 34, 35, 36, 37, 38, 39, 40, 41, 42, 43, 44, 45, 46, 47, 48, 49, 50, 51, 52, 53, 54, 55, 56, 57, 58, 59, 60, 61, 62, 63, 65, 76, 77, 78, 79, 80, 81, 82, 83, 84, 85, 86, 87] v v') = Q
  have hQ : ∀ (z : Int32) (u : Nat → Int32), okv u → mdf [1, 2, 3, 4, 5, 6, 7, 8, 9, 10, 11, 12, 13, 14, 15, 16, 17, 18, 19, 20, 21, 22, 23, 24, 25, 26, 27, 28, 29, 30, 31, 32, 33, 34, 35, 36, 37, 38, 39, 40, 41, 42, 43, 44, 45, 46, 47, 48, 49, 50, 51, 52, 53, 54, 55, 56, 57, 58, 59, 60, 61, 62, 63, 65, 76, 77, 78, 79, 80, 81, 82, 83, 84, 85, 86, 87] v u → Q (some (.int z)) u := by rw [← hQe]; exact fun z u h1 h2  => ⟨z, rfl, h1, h2⟩
  clear hQe
  have hm : mdf [1, 2, 3, 4, 5, 6, 7, 8, 9, 10, 11, 12, 13, 14, 15, 16, 17, 18, 19, 20, 21, 22, 23, 24, 25, 26, 27, 28, 29, 30, 31, 32, 33, 34, 35, 36, 37, 38, 39, 40, 41, 42, 43, 44, 45, 46, 47, 48, 49, 50, 51, 52, 53, 54, 55, 56, 57, 58, 59, 60, 61, 62, 63, 65, 76, 77, 78, 79, 80, 81, 82, 83, 84, 85, 86, 87] v v := mdf.rf
  show ST G mi_PG_answer 0 [(0, .ref 61), (1, .int (nI 1))] [] v 0 0 Q
  refine ST.lift (fun _ _ k => T_iload_n d_PG_answer_0 rfl k) ?_
  refine S_static (as := [.int (nI 1)]) (rest := []) d_PG_answer_1 rfl (jw_PG_isSession.jo (by decide)) lm_PG_133 jt_PG_isSession rfl (Nat.le_of_ble_eq_true rfl) (by decide) (by decide) (c_PG_isSession G v 1 (by omega)) (fun r v' hq => ?_)
  rw [hq.1, hq.2]
  clear hq r v'
  show ST G mi_PG_answer 4 [(0, .ref 61), (1, .int (nI 1))] [.int (nI 1)] v 0 0 _
  refine S_if_neN d_PG_answer_4 rfl (by omega) (fun _ => ?_) (fun c => by first | exact absurd c (by omega) | exact c.elim | exact absurd c (by decide) | exact absurd (by assumption) c | exact absurd c (by assumption))
  refine ST.lift (fun _ _ k => T_aload_n (v := .ref 61) d_PG_answer_9 rfl (Or.inr ⟨_, rfl⟩) k) ?_
  refine S_getfield d_PG_answer_10 fg_PG_34 (w61 _) rfl ?_
  refine ST.lift (fun _ _ k => T_iload_n d_PG_answer_13 rfl k) ?_
  refine S_aaload (C0 := "PasswordGate$Session") d_PG_answer_14 (by decide) (w264 _) rfl (vp_in_nI (by omega) (by omega)) ?_
  refine ST.lift (fun _ _ k => T_astore_n (L' := [(2, .ref 291), (0, .ref 61), (1, .int (nI 1))]) d_PG_answer_15 (by decide) rfl (Or.inr ⟨_, rfl⟩) k) ?_
  refine ST.lift (fun _ _ k => T_aload_n (v := .ref 291) d_PG_answer_16 rfl (Or.inr ⟨_, rfl⟩) k) ?_
  refine ST.lift (fun _ _ k => T_iconst (v := nI 0) d_PG_answer_17 (by decide) k) ?_
  refine S_virtual (as := [.int (nI 0)]) (rest := []) (b := 291) d_PG_answer_18 rfl (jw_Ss_take.jo (by decide)) lm_PG_139 ji_Ss_take js_Ss_take (w291 _) rfl rfl rfl (Nat.le_of_ble_eq_true rfl) (by decide) (by decide) (c_Ss_take_291_0 G v hv) (fun r u1 hq => ?_)
  obtain ⟨z4, hz4, hr, hv2, hm3⟩ := hq
  rw [hr]
  clear hr r
  have hm5 := hm.go hm3 (by intro i hi; simp only [List.mem_cons, List.not_mem_nil, or_false] at hi ⊢ <;> omega)
  show ST G mi_PG_answer 21 [(2, .ref 291), (0, .ref 61), (1, .int (nI 1))] [.int (nI z4)] u1 0 0 _
  refine S_if_eqN d_PG_answer_21 rfl (by omega) (fun c6 => ?_) (fun c6 => ?_)
  · refine ST.lift (fun _ _ k => T_iconst (v := nI 2) d_PG_answer_43 (by decide) k) ?_
    exact S_ret d_PG_answer_44 rfl rfl (by decide) (by decide) (hQ _ _ hv2 hm5)
  · refine ST.lift (fun _ _ k => T_aload_n (v := .ref 61) d_PG_answer_24 rfl (Or.inr ⟨_, rfl⟩) k) ?_
    refine S_getfield d_PG_answer_25 fg_PG_28 (w61 _) rfl ?_
    refine ST.lift (fun _ _ k => T_aload_n (v := .ref 61) d_PG_answer_28 rfl (Or.inr ⟨_, rfl⟩) k) ?_
    refine S_getfield d_PG_answer_29 fg_PG_12 (w61 _) rfl ?_
    refine ST.lift (fun _ _ k => T_aload_n (v := .ref 61) d_PG_answer_32 rfl (Or.inr ⟨_, rfl⟩) k) ?_
    refine S_getfield d_PG_answer_33 fg_PG_21 (w61 _) rfl ?_
    refine ST.lift (fun _ _ k => T_aload_n (v := .ref 291) d_PG_answer_36 rfl (Or.inr ⟨_, rfl⟩) k) ?_
    refine S_virtual (as := [.ref 62, .ref 217, .ref 291]) (rest := []) (b := 231) d_PG_answer_37 rfl (jw_Se_reply.jo (by decide)) lm_PG_142 ji_Se_reply js_Se_reply (w231 _) rfl rfl rfl (Nat.le_of_ble_eq_true rfl) (by decide) (by decide) (c_Se_reply_291 G u1 hv2) (fun r u7 hq => ?_)
    obtain ⟨z10, hr, hv8, hm9⟩ := hq
    rw [hr]
    clear hr r
    have hm11 := hm5.go hm9 (by intro i hi; simp only [List.mem_cons, List.not_mem_nil, or_false] at hi ⊢ <;> omega)
    show ST G mi_PG_answer 40 [(2, .ref 291), (0, .ref 61), (1, .int (nI 1))] [.int z10] u7 0 0 _
    refine ST.lift (fun _ _ k => T_goto (tgt := 44) d_PG_answer_40 rfl k) ?_
    exact S_ret d_PG_answer_44 rfl rfl (by decide) (by decide) (hQ _ _ hv8 hm11)
set_option maxRecDepth 100000 in
set_option maxHeartbeats 4000000 in
theorem c_PG_finish_1 (G : GX) (v : Nat → Int32) (hv : okv v) : CS G mi_PG_finish [.ref 61, .int (nI 1)] v (fun r v' => ∃ z : Int32, r = some (.int z) ∧ okv v' ∧ mdf [1, 2, 3, 4, 5, 6, 7, 8, 9, 10, 11, 12, 13, 14, 15, 16, 17, 18, 19, 20, 21, 22, 23, 24, 25, 26, 27, 28, 29, 30, 31, 32, 33, 34, 35, 36, 37, 38, 39, 40, 41, 42, 43, 44, 45, 46, 47, 48, 49, 50, 51, 52, 53, 54, 55, 56, 57, 58, 59, 60, 61, 62, 63, 65, 76, 77, 78, 79, 80, 81, 82, 83, 84, 85, 86, 87] v v') := by
  refine CS.of (by decide) (Nat.le_of_ble_eq_true rfl) ?_
  generalize hQe : (fun (r : Option Value) (v' : Nat → Int32) => ∃ z : Int32, r = some (.int z) ∧ okv v' ∧ mdf [1, 2, 3, 4, 5, 6, 7, 8, 9, 10, 11, 12, 13, 14, 15, 16, 17, 18, 19, 20, 21, 22, 23, 24, 25, 26, 27, 28, 29, 30, 31, 32, 33, 34, 35, 36, 37, 38, 39, 40, 41, 42, 43, 44, 45, 46, 47, 48, 49, 50, 51, 52, 53, 54, 55, 56, 57, 58, 59, 60, 61, 62, 63, 65, 76, 77, 78, 79, 80, 81, 82, 83, 84, 85, 86, 87] v v') = Q
  have hQ : ∀ (z : Int32) (u : Nat → Int32), okv u → mdf [1, 2, 3, 4, 5, 6, 7, 8, 9, 10, 11, 12, 13, 14, 15, 16, 17, 18, 19, 20, 21, 22, 23, 24, 25, 26, 27, 28, 29, 30, 31, 32, 33, 34, 35, 36, 37, 38, 39, 40, 41, 42, 43, 44, 45, 46, 47, 48, 49, 50, 51, 52, 53, 54, 55, 56, 57, 58, 59, 60, 61, 62, 63, 65, 76, 77, 78, 79, 80, 81, 82, 83, 84, 85, 86, 87] v u → Q (some (.int z)) u := by rw [← hQe]; exact fun z u h1 h2  => ⟨z, rfl, h1, h2⟩
  clear hQe
  have hm : mdf [1, 2, 3, 4, 5, 6, 7, 8, 9, 10, 11, 12, 13, 14, 15, 16, 17, 18, 19, 20, 21, 22, 23, 24, 25, 26, 27, 28, 29, 30, 31, 32, 33, 34, 35, 36, 37, 38, 39, 40, 41, 42, 43, 44, 45, 46, 47, 48, 49, 50, 51, 52, 53, 54, 55, 56, 57, 58, 59, 60, 61, 62, 63, 65, 76, 77, 78, 79, 80, 81, 82, 83, 84, 85, 86, 87] v v := mdf.rf
  show ST G mi_PG_finish 0 [(0, .ref 61), (1, .int (nI 1))] [] v 0 0 Q
  refine ST.lift (fun _ _ k => T_iload_n d_PG_finish_0 rfl k) ?_
  refine S_static (as := [.int (nI 1)]) (rest := []) d_PG_finish_1 rfl (jw_PG_isSession.jo (by decide)) lm_PG_133 jt_PG_isSession rfl (Nat.le_of_ble_eq_true rfl) (by decide) (by decide) (c_PG_isSession G v 1 (by omega)) (fun r v' hq => ?_)
  rw [hq.1, hq.2]
  clear hq r v'
  show ST G mi_PG_finish 4 [(0, .ref 61), (1, .int (nI 1))] [.int (nI 1)] v 0 0 _
  refine S_if_neN d_PG_finish_4 rfl (by omega) (fun _ => ?_) (fun c => by first | exact absurd c (by omega) | exact c.elim | exact absurd c (by decide) | exact absurd (by assumption) c | exact absurd c (by assumption))
  refine ST.lift (fun _ _ k => T_aload_n (v := .ref 61) d_PG_finish_9 rfl (Or.inr ⟨_, rfl⟩) k) ?_
  refine S_getfield d_PG_finish_10 fg_PG_34 (w61 _) rfl ?_
  refine ST.lift (fun _ _ k => T_iload_n d_PG_finish_13 rfl k) ?_
  refine S_aaload (C0 := "PasswordGate$Session") d_PG_finish_14 (by decide) (w264 _) rfl (vp_in_nI (by omega) (by omega)) ?_
  refine ST.lift (fun _ _ k => T_astore_n (L' := [(2, .ref 291), (0, .ref 61), (1, .int (nI 1))]) d_PG_finish_15 (by decide) rfl (Or.inr ⟨_, rfl⟩) k) ?_
  refine ST.lift (fun _ _ k => T_aload_n (v := .ref 291) d_PG_finish_16 rfl (Or.inr ⟨_, rfl⟩) k) ?_
  refine ST.lift (fun _ _ k => T_iconst (v := nI 1) d_PG_finish_17 (by decide) k) ?_
  refine S_virtual (as := [.int (nI 1)]) (rest := []) (b := 291) d_PG_finish_18 rfl (jw_Ss_take.jo (by decide)) lm_PG_139 ji_Ss_take js_Ss_take (w291 _) rfl rfl rfl (Nat.le_of_ble_eq_true rfl) (by decide) (by decide) (c_Ss_take_291_1 G v hv) (fun r u1 hq => ?_)
  obtain ⟨z4, hz4, hr, hv2, hm3⟩ := hq
  rw [hr]
  clear hr r
  have hm5 := hm.go hm3 (by intro i hi; simp only [List.mem_cons, List.not_mem_nil, or_false] at hi ⊢ <;> omega)
  show ST G mi_PG_finish 21 [(2, .ref 291), (0, .ref 61), (1, .int (nI 1))] [.int (nI z4)] u1 0 0 _
  refine S_if_eqN d_PG_finish_21 rfl (by omega) (fun c6 => ?_) (fun c6 => ?_)
  · refine ST.lift (fun _ _ k => T_iconst (v := nI 2) d_PG_finish_39 (by decide) k) ?_
    exact S_ret d_PG_finish_40 rfl rfl (by decide) (by decide) (hQ _ _ hv2 hm5)
  · refine ST.lift (fun _ _ k => T_aload_n (v := .ref 291) d_PG_finish_24 rfl (Or.inr ⟨_, rfl⟩) k) ?_
    refine ST.lift (fun _ _ k => T_aload_n (v := .ref 61) d_PG_finish_25 rfl (Or.inr ⟨_, rfl⟩) k) ?_
    refine S_getfield d_PG_finish_26 fg_PG_12 (w61 _) rfl ?_
    refine ST.lift (fun _ _ k => T_aload_n (v := .ref 61) d_PG_finish_29 rfl (Or.inr ⟨_, rfl⟩) k) ?_
    refine S_getfield d_PG_finish_30 fg_PG_21 (w61 _) rfl ?_
    refine S_virtual (as := [.ref 62, .ref 217]) (rest := []) (b := 291) d_PG_finish_33 rfl (jw_Ss_confirmServer.jo (by decide)) lm_PG_146 ji_Ss_confirmServer js_Ss_confirmServer (w291 _) rfl rfl rfl (Nat.le_of_ble_eq_true rfl) (by decide) (by decide) (c_Ss_confirmServer_291 G u1 hv2) (fun r u7 hq => ?_)
    obtain ⟨z10, hr, hv8, hm9⟩ := hq
    rw [hr]
    clear hr r
    have hm11 := hm5.go hm9 (by intro i hi; simp only [List.mem_cons, List.not_mem_nil, or_false] at hi ⊢ <;> omega)
    show ST G mi_PG_finish 36 [(2, .ref 291), (0, .ref 61), (1, .int (nI 1))] [.int z10] u7 0 0 _
    refine ST.lift (fun _ _ k => T_goto (tgt := 40) d_PG_finish_36 rfl k) ?_
    exact S_ret d_PG_finish_40 rfl rfl (by decide) (by decide) (hQ _ _ hv8 hm11)
set_option maxRecDepth 100000 in
set_option maxHeartbeats 4000000 in
theorem c_PG_accept_1 (G : GX) (v : Nat → Int32) (hv : okv v) : CS G mi_PG_accept [.ref 61, .int (nI 1)] v (fun r v' => ∃ z : Int32, r = some (.int z) ∧ okv v' ∧ mdf [1, 2, 3, 4, 5, 6, 7, 8, 9, 10, 11, 12, 13, 14, 15, 16, 17, 18, 19, 20, 21, 22, 23, 24, 25, 26, 27, 28, 29, 30, 31, 32, 33, 34, 35, 36, 37, 38, 39, 40, 41, 42, 43, 44, 45, 46, 47, 48, 49, 50, 51, 52, 53, 54, 55, 56, 57, 58, 59, 60, 61, 62, 63, 65, 76, 77, 78, 79, 80, 81, 82, 83, 84, 85, 86, 87] v v') := by
  refine CS.of (by decide) (Nat.le_of_ble_eq_true rfl) ?_
  generalize hQe : (fun (r : Option Value) (v' : Nat → Int32) => ∃ z : Int32, r = some (.int z) ∧ okv v' ∧ mdf [1, 2, 3, 4, 5, 6, 7, 8, 9, 10, 11, 12, 13, 14, 15, 16, 17, 18, 19, 20, 21, 22, 23, 24, 25, 26, 27, 28, 29, 30, 31, 32, 33, 34, 35, 36, 37, 38, 39, 40, 41, 42, 43, 44, 45, 46, 47, 48, 49, 50, 51, 52, 53, 54, 55, 56, 57, 58, 59, 60, 61, 62, 63, 65, 76, 77, 78, 79, 80, 81, 82, 83, 84, 85, 86, 87] v v') = Q
  have hQ : ∀ (z : Int32) (u : Nat → Int32), okv u → mdf [1, 2, 3, 4, 5, 6, 7, 8, 9, 10, 11, 12, 13, 14, 15, 16, 17, 18, 19, 20, 21, 22, 23, 24, 25, 26, 27, 28, 29, 30, 31, 32, 33, 34, 35, 36, 37, 38, 39, 40, 41, 42, 43, 44, 45, 46, 47, 48, 49, 50, 51, 52, 53, 54, 55, 56, 57, 58, 59, 60, 61, 62, 63, 65, 76, 77, 78, 79, 80, 81, 82, 83, 84, 85, 86, 87] v u → Q (some (.int z)) u := by rw [← hQe]; exact fun z u h1 h2  => ⟨z, rfl, h1, h2⟩
  clear hQe
  have hm : mdf [1, 2, 3, 4, 5, 6, 7, 8, 9, 10, 11, 12, 13, 14, 15, 16, 17, 18, 19, 20, 21, 22, 23, 24, 25, 26, 27, 28, 29, 30, 31, 32, 33, 34, 35, 36, 37, 38, 39, 40, 41, 42, 43, 44, 45, 46, 47, 48, 49, 50, 51, 52, 53, 54, 55, 56, 57, 58, 59, 60, 61, 62, 63, 65, 76, 77, 78, 79, 80, 81, 82, 83, 84, 85, 86, 87] v v := mdf.rf
  show ST G mi_PG_accept 0 [(0, .ref 61), (1, .int (nI 1))] [] v 0 0 Q
  refine ST.lift (fun _ _ k => T_iload_n d_PG_accept_0 rfl k) ?_
  refine S_static (as := [.int (nI 1)]) (rest := []) d_PG_accept_1 rfl (jw_PG_isSession.jo (by decide)) lm_PG_133 jt_PG_isSession rfl (Nat.le_of_ble_eq_true rfl) (by decide) (by decide) (c_PG_isSession G v 1 (by omega)) (fun r v' hq => ?_)
  rw [hq.1, hq.2]
  clear hq r v'
  show ST G mi_PG_accept 4 [(0, .ref 61), (1, .int (nI 1))] [.int (nI 1)] v 0 0 _
  refine S_if_neN d_PG_accept_4 rfl (by omega) (fun _ => ?_) (fun c => by first | exact absurd c (by omega) | exact c.elim | exact absurd c (by decide) | exact absurd (by assumption) c | exact absurd c (by assumption))
  refine ST.lift (fun _ _ k => T_aload_n (v := .ref 61) d_PG_accept_9 rfl (Or.inr ⟨_, rfl⟩) k) ?_
  refine S_getfield d_PG_accept_10 fg_PG_34 (w61 _) rfl ?_
  refine ST.lift (fun _ _ k => T_iload_n d_PG_accept_13 rfl k) ?_
  refine S_aaload (C0 := "PasswordGate$Session") d_PG_accept_14 (by decide) (w264 _) rfl (vp_in_nI (by omega) (by omega)) ?_
  refine ST.lift (fun _ _ k => T_astore_n (L' := [(2, .ref 291), (0, .ref 61), (1, .int (nI 1))]) d_PG_accept_15 (by decide) rfl (Or.inr ⟨_, rfl⟩) k) ?_
  refine ST.lift (fun _ _ k => T_aload_n (v := .ref 291) d_PG_accept_16 rfl (Or.inr ⟨_, rfl⟩) k) ?_
  refine ST.lift (fun _ _ k => T_iconst (v := nI 2) d_PG_accept_17 (by decide) k) ?_
  refine S_virtual (as := [.int (nI 2)]) (rest := []) (b := 291) d_PG_accept_18 rfl (jw_Ss_take.jo (by decide)) lm_PG_139 ji_Ss_take js_Ss_take (w291 _) rfl rfl rfl (Nat.le_of_ble_eq_true rfl) (by decide) (by decide) (c_Ss_take_291_2 G v hv) (fun r u1 hq => ?_)
  obtain ⟨z4, hz4, hr, hv2, hm3⟩ := hq
  rw [hr]
  clear hr r
  have hm5 := hm.go hm3 (by intro i hi; simp only [List.mem_cons, List.not_mem_nil, or_false] at hi ⊢ <;> omega)
  show ST G mi_PG_accept 21 [(2, .ref 291), (0, .ref 61), (1, .int (nI 1))] [.int (nI z4)] u1 0 0 _
  refine S_if_eqN d_PG_accept_21 rfl (by omega) (fun c6 => ?_) (fun c6 => ?_)
  · refine ST.lift (fun _ _ k => T_iconst (v := nI 2) d_PG_accept_31 (by decide) k) ?_
    exact S_ret d_PG_accept_32 rfl rfl (by decide) (by decide) (hQ _ _ hv2 hm5)
  · refine ST.lift (fun _ _ k => T_aload_n (v := .ref 291) d_PG_accept_24 rfl (Or.inr ⟨_, rfl⟩) k) ?_
    refine S_virtual (as := []) (rest := []) (b := 291) d_PG_accept_25 rfl (jw_Ss_confirmClient.jo (by decide)) lm_PG_150 ji_Ss_confirmClient js_Ss_confirmClient (w291 _) rfl rfl rfl (Nat.le_of_ble_eq_true rfl) (by decide) (by decide) (c_Ss_confirmClient_291 G u1 hv2) (fun r u7 hq => ?_)
    obtain ⟨z10, hr, hv8, hm9⟩ := hq
    rw [hr]
    clear hr r
    have hm11 := hm5.go hm9 (by intro i hi; simp only [List.mem_cons, List.not_mem_nil, or_false] at hi ⊢ <;> omega)
    show ST G mi_PG_accept 28 [(2, .ref 291), (0, .ref 61), (1, .int (nI 1))] [.int z10] u7 0 0 _
    refine ST.lift (fun _ _ k => T_goto (tgt := 32) d_PG_accept_28 rfl k) ?_
    exact S_ret d_PG_accept_32 rfl rfl (by decide) (by decide) (hQ _ _ hv8 hm11)
set_option maxRecDepth 100000 in
set_option maxHeartbeats 4000000 in
theorem c_PG_begin_2 (G : GX) (v : Nat → Int32) (usr : Nat) (b_usr : usr ≤ 7) (hv : okv v) : CS G mi_PG_begin [.ref 61, .int (nI 2), .int (nI usr)] v (fun r v' => r = some (.int (nI 0)) ∧ okv v' ∧ mdf [1, 2, 3, 4, 5, 6, 7, 8, 9, 10, 11, 12, 13, 14, 15, 16, 17, 18, 19, 20, 21, 22, 23, 24, 25, 26, 27, 28, 29, 30, 31, 32, 33, 34, 35, 36, 37, 38, 39, 40, 41, 42, 43, 44, 45, 46, 47, 48, 49, 50, 51, 52, 53, 54, 55, 56, 57, 58, 59, 60, 61, 62, 63, 64, 65, 76, 77, 78, 79, 80, 81, 82, 83, 84, 85, 86, 87] v v' ∧ v' 64 = nI 0) := by
  refine CS.of (by decide) (Nat.le_of_ble_eq_true rfl) ?_
  generalize hQe : (fun (r : Option Value) (v' : Nat → Int32) => r = some (.int (nI 0)) ∧ okv v' ∧ mdf [1, 2, 3, 4, 5, 6, 7, 8, 9, 10, 11, 12, 13, 14, 15, 16, 17, 18, 19, 20, 21, 22, 23, 24, 25, 26, 27, 28, 29, 30, 31, 32, 33, 34, 35, 36, 37, 38, 39, 40, 41, 42, 43, 44, 45, 46, 47, 48, 49, 50, 51, 52, 53, 54, 55, 56, 57, 58, 59, 60, 61, 62, 63, 64, 65, 76, 77, 78, 79, 80, 81, 82, 83, 84, 85, 86, 87] v v' ∧ v' 64 = nI 0) = Q
  have hQ : ∀ u, okv u → mdf [1, 2, 3, 4, 5, 6, 7, 8, 9, 10, 11, 12, 13, 14, 15, 16, 17, 18, 19, 20, 21, 22, 23, 24, 25, 26, 27, 28, 29, 30, 31, 32, 33, 34, 35, 36, 37, 38, 39, 40, 41, 42, 43, 44, 45, 46, 47, 48, 49, 50, 51, 52, 53, 54, 55, 56, 57, 58, 59, 60, 61, 62, 63, 64, 65, 76, 77, 78, 79, 80, 81, 82, 83, 84, 85, 86, 87] v u → u 64 = nI 0 → Q (some (.int (nI 0))) u := by rw [← hQe]; exact fun u h1 h2 f0 => ⟨rfl, h1, h2, f0⟩
  clear hQe
  have hm : mdf [1, 2, 3, 4, 5, 6, 7, 8, 9, 10, 11, 12, 13, 14, 15, 16, 17, 18, 19, 20, 21, 22, 23, 24, 25, 26, 27, 28, 29, 30, 31, 32, 33, 34, 35, 36, 37, 38, 39, 40, 41, 42, 43, 44, 45, 46, 47, 48, 49, 50, 51, 52, 53, 54, 55, 56, 57, 58, 59, 60, 61, 62, 63, 64, 65, 76, 77, 78, 79, 80, 81, 82, 83, 84, 85, 86, 87] v v := mdf.rf
  show ST G mi_PG_begin 0 [(0, .ref 61), (1, .int (nI 2)), (2, .int (nI usr))] [] v 0 0 Q
  refine ST.lift (fun _ _ k => T_iload_n d_PG_begin_0 rfl k) ?_
  refine S_static (as := [.int (nI 2)]) (rest := []) d_PG_begin_1 rfl (jw_PG_isSession.jo (by decide)) lm_PG_133 jt_PG_isSession rfl (Nat.le_of_ble_eq_true rfl) (by decide) (by decide) (c_PG_isSession G v 2 (by omega)) (fun r v' hq => ?_)
  rw [hq.1, hq.2]
  clear hq r v'
  show ST G mi_PG_begin 4 [(0, .ref 61), (1, .int (nI 2)), (2, .int (nI usr))] [.int (nI 1)] v 0 0 _
  refine S_if_eqN d_PG_begin_4 rfl (by omega) (fun c => by first | exact absurd c (by omega) | exact c.elim | exact absurd c (by decide) | exact absurd (by assumption) c | exact absurd c (by assumption)) (fun _ => ?_)
  refine ST.lift (fun _ _ k => T_iload_n d_PG_begin_7 rfl k) ?_
  refine S_static (as := [.int (nI usr)]) (rest := []) d_PG_begin_8 rfl (jw_PG_isUser.jo (by decide)) lm_PG_126 jt_PG_isUser rfl (Nat.le_of_ble_eq_true rfl) (by decide) (by decide) (c_PG_isUser G v usr (by omega)) (fun r v' hq => ?_)
  rw [hq.1, hq.2]
  clear hq r v'
  show ST G mi_PG_begin 11 [(0, .ref 61), (1, .int (nI 2)), (2, .int (nI usr))] [.int (nI 1)] v 0 0 _
  refine S_if_eqN d_PG_begin_11 rfl (by omega) (fun c => by first | exact absurd c (by omega) | exact c.elim | exact absurd c (by decide) | exact absurd (by assumption) c | exact absurd c (by assumption)) (fun _ => ?_)
  refine ST.lift (fun _ _ k => T_iconst (v := nI 1) d_PG_begin_14 (by decide) k) ?_
  refine ST.lift (fun _ _ k => T_goto (tgt := 19) d_PG_begin_15 rfl k) ?_
  refine ST.lift (fun _ _ k => T_istore_n (L' := [(3, .int (nI 1)), (0, .ref 61), (1, .int (nI 2)), (2, .int (nI usr))]) d_PG_begin_19 (by decide) rfl k) ?_
  refine ST.lift (fun _ _ k => T_iload_n d_PG_begin_20 rfl k) ?_
  refine S_if_eqN d_PG_begin_21 rfl (by omega) (fun c => by first | exact absurd c (by omega) | exact c.elim | exact absurd c (by decide) | exact absurd (by assumption) c | exact absurd c (by assumption)) (fun _ => ?_)
  refine ST.lift (fun _ _ k => T_aload_n (v := .ref 61) d_PG_begin_24 rfl (Or.inr ⟨_, rfl⟩) k) ?_
  refine S_getfield d_PG_begin_25 fg_PG_34 (w61 _) rfl ?_
  refine ST.lift (fun _ _ k => T_iload_n d_PG_begin_28 rfl k) ?_
  refine S_aaload (C0 := "PasswordGate$Session") d_PG_begin_29 (by decide) (w264 _) rfl (vp_in_nI (by omega) (by omega)) ?_
  refine ST.lift (fun _ _ k => T_aload_n (v := .ref 61) d_PG_begin_30 rfl (Or.inr ⟨_, rfl⟩) k) ?_
  refine S_getfield d_PG_begin_31 fg_PG_12 (w61 _) rfl ?_
  refine ST.lift (fun _ _ k => T_iload_n d_PG_begin_34 rfl k) ?_
  refine ST.lift (fun _ _ k => T_aload_n (v := .ref 61) d_PG_begin_35 rfl (Or.inr ⟨_, rfl⟩) k) ?_
  refine S_getfield d_PG_begin_36 fg_PG_42 (w61 _) rfl ?_
  refine S_virtual (as := [.ref 62, .int (nI usr), .ref 369]) (rest := []) (b := 317) d_PG_begin_39 rfl (jw_Ss_start.jo (by decide)) lm_PG_136 ji_Ss_start js_Ss_start (w317 _) rfl rfl rfl (Nat.le_of_ble_eq_true rfl) (by decide) (by decide) (c_Ss_start_317 G v usr (by omega) 369 370 200 64 ⟨w369, a370, by decide, u369_1, by decide, by decide⟩ hv) (fun r u1 hq => ?_)
  obtain ⟨hr, hv2, hm3⟩ := hq
  rw [hr]
  clear hr r
  have hm4 := hm.go hm3 (by intro i hi; simp only [List.mem_cons, List.not_mem_nil, or_false] at hi ⊢ <;> omega)
  show ST G mi_PG_begin 42 [(3, .int (nI 1)), (0, .ref 61), (1, .int (nI 2)), (2, .int (nI usr))] [] u1 0 0 _
  refine ST.lift (fun _ _ k => T_aload_n (v := .ref 61) d_PG_begin_42 rfl (Or.inr ⟨_, rfl⟩) k) ?_
  refine S_getfield d_PG_begin_43 fg_PG_42 (w61 _) rfl ?_
  refine S_virtual (as := []) (rest := []) (b := 369) d_PG_begin_46 rfl (jw_By_clear.jo (by decide)) lm_PG_71 ji_By_clear js_By_clear (w369 _) rfl rfl rfl (Nat.le_of_ble_eq_true rfl) (by decide) (by decide) (c_By_clear G u1 369 370 200 64 ⟨w369, a370, by decide, u369_1, by decide, by decide⟩ hv2) (fun r v' hq => ?_)
  rw [hq.1, hq.2]
  clear hq r v'
  show ST G mi_PG_begin 49 [(3, .int (nI 1)), (0, .ref 61), (1, .int (nI 2)), (2, .int (nI usr))] [] (va_up u1 64 (nI 0)) 0 0 _
  have hv6 := hv2.up (j := 64) (c := 200) (k := 0) (by decide) (by omega)
  have hm7 := hm4.go (mdf.up (v := u1) (j := 64) (x := (nI 0))) (by intro i hi; simp only [List.mem_cons, List.not_mem_nil, or_false] at hi ⊢ <;> omega)
  have e_u5 : (va_up u1 64 (nI 0)) 64 = (nI 0) := by simp [va_up]
  generalize va_up u1 64 (nI 0) = u5 at hv6 hm7 e_u5 ⊢
  refine ST.lift (fun _ _ k => T_iload_n d_PG_begin_49 rfl k) ?_
  refine S_if_eqN d_PG_begin_50 rfl (by omega) (fun c => by first | exact absurd c (by omega) | exact c.elim | exact absurd c (by decide) | exact absurd (by assumption) c | exact absurd c (by assumption)) (fun _ => ?_)
  refine ST.lift (fun _ _ k => T_iconst (v := nI 0) d_PG_begin_53 (by decide) k) ?_
  refine ST.lift (fun _ _ k => T_goto (tgt := 58) d_PG_begin_54 rfl k) ?_
  refine S_topi (y := nI 0) (congrArg nI (by omega)) ?_
  exact S_ret d_PG_begin_58 rfl rfl (by decide) (by decide) (hQ _ hv6 hm7 (e_u5.trans (congrArg nI (by omega))))
set_option maxRecDepth 100000 in
set_option maxHeartbeats 4000000 in
theorem c_PG_begin_2_neg (G : GX) (v : Nat → Int32) (x : Int32) (hx_u : x < 0) (hv : okv v) : CS G mi_PG_begin [.ref 61, .int (nI 2), .int x] v (fun r v' => r = some (.int (-1)) ∧ okv v' ∧ mdf [64] v v' ∧ v' 64 = nI 0) := by
  refine CS.of (by decide) (Nat.le_of_ble_eq_true rfl) ?_
  generalize hQe : (fun (r : Option Value) (v' : Nat → Int32) => r = some (.int (-1)) ∧ okv v' ∧ mdf [64] v v' ∧ v' 64 = nI 0) = Q
  have hQ : ∀ u, okv u → mdf [64] v u → u 64 = nI 0 → Q (some (.int (-1))) u := by rw [← hQe]; exact fun u h1 h2 f0 => ⟨rfl, h1, h2, f0⟩
  clear hQe
  have hm : mdf [64] v v := mdf.rf
  show ST G mi_PG_begin 0 [(0, .ref 61), (1, .int (nI 2)), (2, .int x)] [] v 0 0 Q
  refine ST.lift (fun _ _ k => T_iload_n d_PG_begin_0 rfl k) ?_
  refine S_static (as := [.int (nI 2)]) (rest := []) d_PG_begin_1 rfl (jw_PG_isSession.jo (by decide)) lm_PG_133 jt_PG_isSession rfl (Nat.le_of_ble_eq_true rfl) (by decide) (by decide) (c_PG_isSession G v 2 (by omega)) (fun r v' hq => ?_)
  rw [hq.1, hq.2]
  clear hq r v'
  show ST G mi_PG_begin 4 [(0, .ref 61), (1, .int (nI 2)), (2, .int x)] [.int (nI 1)] v 0 0 _
  refine S_if_eqN d_PG_begin_4 rfl (by omega) (fun c => by first | exact absurd c (by omega) | exact c.elim | exact absurd c (by decide) | exact absurd (by assumption) c | exact absurd c (by assumption)) (fun _ => ?_)
  refine ST.lift (fun _ _ k => T_iload_n d_PG_begin_7 rfl k) ?_
  refine S_static (as := [.int x]) (rest := []) d_PG_begin_8 rfl (jw_PG_isUser.jo (by decide)) lm_PG_126 jt_PG_isUser rfl (Nat.le_of_ble_eq_true rfl) (by decide) (by decide) (c_PG_isUser_neg G v x hx_u) (fun r v' hq => ?_)
  rw [hq.1, hq.2]
  clear hq r v'
  show ST G mi_PG_begin 11 [(0, .ref 61), (1, .int (nI 2)), (2, .int x)] [.int (nI 0)] v 0 0 _
  refine S_if_eqN d_PG_begin_11 rfl (by omega) (fun _ => ?_) (fun c => by first | exact absurd c (by omega) | exact c.elim | exact absurd c (by decide) | exact absurd (by assumption) c | exact absurd c (by assumption))
  refine ST.lift (fun _ _ k => T_iconst (v := nI 0) d_PG_begin_18 (by decide) k) ?_
  refine ST.lift (fun _ _ k => T_istore_n (L' := [(3, .int (nI 0)), (0, .ref 61), (1, .int (nI 2)), (2, .int x)]) d_PG_begin_19 (by decide) rfl k) ?_
  refine ST.lift (fun _ _ k => T_iload_n d_PG_begin_20 rfl k) ?_
  refine S_if_eqN d_PG_begin_21 rfl (by omega) (fun _ => ?_) (fun c => by first | exact absurd c (by omega) | exact c.elim | exact absurd c (by decide) | exact absurd (by assumption) c | exact absurd c (by assumption))
  refine ST.lift (fun _ _ k => T_aload_n (v := .ref 61) d_PG_begin_42 rfl (Or.inr ⟨_, rfl⟩) k) ?_
  refine S_getfield d_PG_begin_43 fg_PG_42 (w61 _) rfl ?_
  refine S_virtual (as := []) (rest := []) (b := 369) d_PG_begin_46 rfl (jw_By_clear.jo (by decide)) lm_PG_71 ji_By_clear js_By_clear (w369 _) rfl rfl rfl (Nat.le_of_ble_eq_true rfl) (by decide) (by decide) (c_By_clear G v 369 370 200 64 ⟨w369, a370, by decide, u369_1, by decide, by decide⟩ hv) (fun r v' hq => ?_)
  rw [hq.1, hq.2]
  clear hq r v'
  show ST G mi_PG_begin 49 [(3, .int (nI 0)), (0, .ref 61), (1, .int (nI 2)), (2, .int x)] [] (va_up v 64 (nI 0)) 0 0 _
  have hv2 := hv.up (j := 64) (c := 200) (k := 0) (by decide) (by omega)
  have hm3 := hm.go (mdf.up (v := v) (j := 64) (x := (nI 0))) (by intro i hi; simp only [List.mem_cons, List.not_mem_nil, or_false] at hi ⊢ <;> omega)
  have e_u1 : (va_up v 64 (nI 0)) 64 = (nI 0) := by simp [va_up]
  generalize va_up v 64 (nI 0) = u1 at hv2 hm3 e_u1 ⊢
  refine ST.lift (fun _ _ k => T_iload_n d_PG_begin_49 rfl k) ?_
  refine S_if_eqN d_PG_begin_50 rfl (by omega) (fun _ => ?_) (fun c => by first | exact absurd c (by omega) | exact c.elim | exact absurd c (by decide) | exact absurd (by assumption) c | exact absurd c (by assumption))
  refine ST.lift (fun _ _ k => T_iconst (v := -1) d_PG_begin_57 (by decide) k) ?_
  exact S_ret d_PG_begin_58 rfl rfl (by decide) (by decide) (hQ _ hv2 hm3 (e_u1.trans (congrArg nI (by omega))))
set_option maxRecDepth 100000 in
set_option maxHeartbeats 4000000 in
theorem c_PG_begin_2_big (G : GX) (v : Nat → Int32) (x : Int32) (h0_u : ¬ x < 0) (hx_u : nI 8 ≤ x) (hv : okv v) : CS G mi_PG_begin [.ref 61, .int (nI 2), .int x] v (fun r v' => r = some (.int (-1)) ∧ okv v' ∧ mdf [64] v v' ∧ v' 64 = nI 0) := by
  refine CS.of (by decide) (Nat.le_of_ble_eq_true rfl) ?_
  generalize hQe : (fun (r : Option Value) (v' : Nat → Int32) => r = some (.int (-1)) ∧ okv v' ∧ mdf [64] v v' ∧ v' 64 = nI 0) = Q
  have hQ : ∀ u, okv u → mdf [64] v u → u 64 = nI 0 → Q (some (.int (-1))) u := by rw [← hQe]; exact fun u h1 h2 f0 => ⟨rfl, h1, h2, f0⟩
  clear hQe
  have hm : mdf [64] v v := mdf.rf
  show ST G mi_PG_begin 0 [(0, .ref 61), (1, .int (nI 2)), (2, .int x)] [] v 0 0 Q
  refine ST.lift (fun _ _ k => T_iload_n d_PG_begin_0 rfl k) ?_
  refine S_static (as := [.int (nI 2)]) (rest := []) d_PG_begin_1 rfl (jw_PG_isSession.jo (by decide)) lm_PG_133 jt_PG_isSession rfl (Nat.le_of_ble_eq_true rfl) (by decide) (by decide) (c_PG_isSession G v 2 (by omega)) (fun r v' hq => ?_)
  rw [hq.1, hq.2]
  clear hq r v'
  show ST G mi_PG_begin 4 [(0, .ref 61), (1, .int (nI 2)), (2, .int x)] [.int (nI 1)] v 0 0 _
  refine S_if_eqN d_PG_begin_4 rfl (by omega) (fun c => by first | exact absurd c (by omega) | exact c.elim | exact absurd c (by decide) | exact absurd (by assumption) c | exact absurd c (by assumption)) (fun _ => ?_)
  refine ST.lift (fun _ _ k => T_iload_n d_PG_begin_7 rfl k) ?_
  refine S_static (as := [.int x]) (rest := []) d_PG_begin_8 rfl (jw_PG_isUser.jo (by decide)) lm_PG_126 jt_PG_isUser rfl (Nat.le_of_ble_eq_true rfl) (by decide) (by decide) (c_PG_isUser_big G v x h0_u hx_u) (fun r v' hq => ?_)
  rw [hq.1, hq.2]
  clear hq r v'
  show ST G mi_PG_begin 11 [(0, .ref 61), (1, .int (nI 2)), (2, .int x)] [.int (nI 0)] v 0 0 _
  refine S_if_eqN d_PG_begin_11 rfl (by omega) (fun _ => ?_) (fun c => by first | exact absurd c (by omega) | exact c.elim | exact absurd c (by decide) | exact absurd (by assumption) c | exact absurd c (by assumption))
  refine ST.lift (fun _ _ k => T_iconst (v := nI 0) d_PG_begin_18 (by decide) k) ?_
  refine ST.lift (fun _ _ k => T_istore_n (L' := [(3, .int (nI 0)), (0, .ref 61), (1, .int (nI 2)), (2, .int x)]) d_PG_begin_19 (by decide) rfl k) ?_
  refine ST.lift (fun _ _ k => T_iload_n d_PG_begin_20 rfl k) ?_
  refine S_if_eqN d_PG_begin_21 rfl (by omega) (fun _ => ?_) (fun c => by first | exact absurd c (by omega) | exact c.elim | exact absurd c (by decide) | exact absurd (by assumption) c | exact absurd c (by assumption))
  refine ST.lift (fun _ _ k => T_aload_n (v := .ref 61) d_PG_begin_42 rfl (Or.inr ⟨_, rfl⟩) k) ?_
  refine S_getfield d_PG_begin_43 fg_PG_42 (w61 _) rfl ?_
  refine S_virtual (as := []) (rest := []) (b := 369) d_PG_begin_46 rfl (jw_By_clear.jo (by decide)) lm_PG_71 ji_By_clear js_By_clear (w369 _) rfl rfl rfl (Nat.le_of_ble_eq_true rfl) (by decide) (by decide) (c_By_clear G v 369 370 200 64 ⟨w369, a370, by decide, u369_1, by decide, by decide⟩ hv) (fun r v' hq => ?_)
  rw [hq.1, hq.2]
  clear hq r v'
  show ST G mi_PG_begin 49 [(3, .int (nI 0)), (0, .ref 61), (1, .int (nI 2)), (2, .int x)] [] (va_up v 64 (nI 0)) 0 0 _
  have hv2 := hv.up (j := 64) (c := 200) (k := 0) (by decide) (by omega)
  have hm3 := hm.go (mdf.up (v := v) (j := 64) (x := (nI 0))) (by intro i hi; simp only [List.mem_cons, List.not_mem_nil, or_false] at hi ⊢ <;> omega)
  have e_u1 : (va_up v 64 (nI 0)) 64 = (nI 0) := by simp [va_up]
  generalize va_up v 64 (nI 0) = u1 at hv2 hm3 e_u1 ⊢
  refine ST.lift (fun _ _ k => T_iload_n d_PG_begin_49 rfl k) ?_
  refine S_if_eqN d_PG_begin_50 rfl (by omega) (fun _ => ?_) (fun c => by first | exact absurd c (by omega) | exact c.elim | exact absurd c (by decide) | exact absurd (by assumption) c | exact absurd c (by assumption))
  refine ST.lift (fun _ _ k => T_iconst (v := -1) d_PG_begin_57 (by decide) k) ?_
  exact S_ret d_PG_begin_58 rfl rfl (by decide) (by decide) (hQ _ hv2 hm3 (e_u1.trans (congrArg nI (by omega))))
set_option maxRecDepth 100000 in
set_option maxHeartbeats 4000000 in
theorem c_PG_answer_2 (G : GX) (v : Nat → Int32) (hv : okv v) : CS G mi_PG_answer [.ref 61, .int (nI 2)] v (fun r v' => ∃ z : Int32, r = some (.int z) ∧ okv v' ∧ mdf [1, 2, 3, 4, 5, 6, 7, 8, 9, 10, 11, 12, 13, 14, 15, 16, 17, 18, 19, 20, 21, 22, 23, 24, 25, 26, 27, 28, 29, 30, 31, 32, 33, 34, 35, 36, 37, 38, 39, 40, 41, 42, 43, 44, 45, 46, 47, 48, 49, 50, 51, 52, 53, 54, 55, 56, 57, 58, 59, 60, 61, 62, 63, 65, 76, 77, 78, 79, 80, 81, 82, 83, 84, 85, 86, 87] v v') := by
  refine CS.of (by decide) (Nat.le_of_ble_eq_true rfl) ?_
  generalize hQe : (fun (r : Option Value) (v' : Nat → Int32) => ∃ z : Int32, r = some (.int z) ∧ okv v' ∧ mdf [1, 2, 3, 4, 5, 6, 7, 8, 9, 10, 11, 12, 13, 14, 15, 16, 17, 18, 19, 20, 21, 22, 23, 24, 25, 26, 27, 28, 29, 30, 31, 32, 33, 34, 35, 36, 37, 38, 39, 40, 41, 42, 43, 44, 45, 46, 47, 48, 49, 50, 51, 52, 53, 54, 55, 56, 57, 58, 59, 60, 61, 62, 63, 65, 76, 77, 78, 79, 80, 81, 82, 83, 84, 85, 86, 87] v v') = Q
  have hQ : ∀ (z : Int32) (u : Nat → Int32), okv u → mdf [1, 2, 3, 4, 5, 6, 7, 8, 9, 10, 11, 12, 13, 14, 15, 16, 17, 18, 19, 20, 21, 22, 23, 24, 25, 26, 27, 28, 29, 30, 31, 32, 33, 34, 35, 36, 37, 38, 39, 40, 41, 42, 43, 44, 45, 46, 47, 48, 49, 50, 51, 52, 53, 54, 55, 56, 57, 58, 59, 60, 61, 62, 63, 65, 76, 77, 78, 79, 80, 81, 82, 83, 84, 85, 86, 87] v u → Q (some (.int z)) u := by rw [← hQe]; exact fun z u h1 h2  => ⟨z, rfl, h1, h2⟩
  clear hQe
  have hm : mdf [1, 2, 3, 4, 5, 6, 7, 8, 9, 10, 11, 12, 13, 14, 15, 16, 17, 18, 19, 20, 21, 22, 23, 24, 25, 26, 27, 28, 29, 30, 31, 32, 33, 34, 35, 36, 37, 38, 39, 40, 41, 42, 43, 44, 45, 46, 47, 48, 49, 50, 51, 52, 53, 54, 55, 56, 57, 58, 59, 60, 61, 62, 63, 65, 76, 77, 78, 79, 80, 81, 82, 83, 84, 85, 86, 87] v v := mdf.rf
  show ST G mi_PG_answer 0 [(0, .ref 61), (1, .int (nI 2))] [] v 0 0 Q
  refine ST.lift (fun _ _ k => T_iload_n d_PG_answer_0 rfl k) ?_
  refine S_static (as := [.int (nI 2)]) (rest := []) d_PG_answer_1 rfl (jw_PG_isSession.jo (by decide)) lm_PG_133 jt_PG_isSession rfl (Nat.le_of_ble_eq_true rfl) (by decide) (by decide) (c_PG_isSession G v 2 (by omega)) (fun r v' hq => ?_)
  rw [hq.1, hq.2]
  clear hq r v'
  show ST G mi_PG_answer 4 [(0, .ref 61), (1, .int (nI 2))] [.int (nI 1)] v 0 0 _
  refine S_if_neN d_PG_answer_4 rfl (by omega) (fun _ => ?_) (fun c => by first | exact absurd c (by omega) | exact c.elim | exact absurd c (by decide) | exact absurd (by assumption) c | exact absurd c (by assumption))
  refine ST.lift (fun _ _ k => T_aload_n (v := .ref 61) d_PG_answer_9 rfl (Or.inr ⟨_, rfl⟩) k) ?_
  refine S_getfield d_PG_answer_10 fg_PG_34 (w61 _) rfl ?_
  refine ST.lift (fun _ _ k => T_iload_n d_PG_answer_13 rfl k) ?_
  refine S_aaload (C0 := "PasswordGate$Session") d_PG_answer_14 (by decide) (w264 _) rfl (vp_in_nI (by omega) (by omega)) ?_
  refine ST.lift (fun _ _ k => T_astore_n (L' := [(2, .ref 317), (0, .ref 61), (1, .int (nI 2))]) d_PG_answer_15 (by decide) rfl (Or.inr ⟨_, rfl⟩) k) ?_
  refine ST.lift (fun _ _ k => T_aload_n (v := .ref 317) d_PG_answer_16 rfl (Or.inr ⟨_, rfl⟩) k) ?_
  refine ST.lift (fun _ _ k => T_iconst (v := nI 0) d_PG_answer_17 (by decide) k) ?_
  refine S_virtual (as := [.int (nI 0)]) (rest := []) (b := 317) d_PG_answer_18 rfl (jw_Ss_take.jo (by decide)) lm_PG_139 ji_Ss_take js_Ss_take (w317 _) rfl rfl rfl (Nat.le_of_ble_eq_true rfl) (by decide) (by decide) (c_Ss_take_317_0 G v hv) (fun r u1 hq => ?_)
  obtain ⟨z4, hz4, hr, hv2, hm3⟩ := hq
  rw [hr]
  clear hr r
  have hm5 := hm.go hm3 (by intro i hi; simp only [List.mem_cons, List.not_mem_nil, or_false] at hi ⊢ <;> omega)
  show ST G mi_PG_answer 21 [(2, .ref 317), (0, .ref 61), (1, .int (nI 2))] [.int (nI z4)] u1 0 0 _
  refine S_if_eqN d_PG_answer_21 rfl (by omega) (fun c6 => ?_) (fun c6 => ?_)
  · refine ST.lift (fun _ _ k => T_iconst (v := nI 2) d_PG_answer_43 (by decide) k) ?_
    exact S_ret d_PG_answer_44 rfl rfl (by decide) (by decide) (hQ _ _ hv2 hm5)
  · refine ST.lift (fun _ _ k => T_aload_n (v := .ref 61) d_PG_answer_24 rfl (Or.inr ⟨_, rfl⟩) k) ?_
    refine S_getfield d_PG_answer_25 fg_PG_28 (w61 _) rfl ?_
    refine ST.lift (fun _ _ k => T_aload_n (v := .ref 61) d_PG_answer_28 rfl (Or.inr ⟨_, rfl⟩) k) ?_
    refine S_getfield d_PG_answer_29 fg_PG_12 (w61 _) rfl ?_
    refine ST.lift (fun _ _ k => T_aload_n (v := .ref 61) d_PG_answer_32 rfl (Or.inr ⟨_, rfl⟩) k) ?_
    refine S_getfield d_PG_answer_33 fg_PG_21 (w61 _) rfl ?_
    refine ST.lift (fun _ _ k => T_aload_n (v := .ref 317) d_PG_answer_36 rfl (Or.inr ⟨_, rfl⟩) k) ?_
    refine S_virtual (as := [.ref 62, .ref 217, .ref 317]) (rest := []) (b := 231) d_PG_answer_37 rfl (jw_Se_reply.jo (by decide)) lm_PG_142 ji_Se_reply js_Se_reply (w231 _) rfl rfl rfl (Nat.le_of_ble_eq_true rfl) (by decide) (by decide) (c_Se_reply_317 G u1 hv2) (fun r u7 hq => ?_)
    obtain ⟨z10, hr, hv8, hm9⟩ := hq
    rw [hr]
    clear hr r
    have hm11 := hm5.go hm9 (by intro i hi; simp only [List.mem_cons, List.not_mem_nil, or_false] at hi ⊢ <;> omega)
    show ST G mi_PG_answer 40 [(2, .ref 317), (0, .ref 61), (1, .int (nI 2))] [.int z10] u7 0 0 _
    refine ST.lift (fun _ _ k => T_goto (tgt := 44) d_PG_answer_40 rfl k) ?_
    exact S_ret d_PG_answer_44 rfl rfl (by decide) (by decide) (hQ _ _ hv8 hm11)
set_option maxRecDepth 100000 in
set_option maxHeartbeats 4000000 in
theorem c_PG_finish_2 (G : GX) (v : Nat → Int32) (hv : okv v) : CS G mi_PG_finish [.ref 61, .int (nI 2)] v (fun r v' => ∃ z : Int32, r = some (.int z) ∧ okv v' ∧ mdf [1, 2, 3, 4, 5, 6, 7, 8, 9, 10, 11, 12, 13, 14, 15, 16, 17, 18, 19, 20, 21, 22, 23, 24, 25, 26, 27, 28, 29, 30, 31, 32, 33, 34, 35, 36, 37, 38, 39, 40, 41, 42, 43, 44, 45, 46, 47, 48, 49, 50, 51, 52, 53, 54, 55, 56, 57, 58, 59, 60, 61, 62, 63, 65, 76, 77, 78, 79, 80, 81, 82, 83, 84, 85, 86, 87] v v') := by
  refine CS.of (by decide) (Nat.le_of_ble_eq_true rfl) ?_
  generalize hQe : (fun (r : Option Value) (v' : Nat → Int32) => ∃ z : Int32, r = some (.int z) ∧ okv v' ∧ mdf [1, 2, 3, 4, 5, 6, 7, 8, 9, 10, 11, 12, 13, 14, 15, 16, 17, 18, 19, 20, 21, 22, 23, 24, 25, 26, 27, 28, 29, 30, 31, 32, 33, 34, 35, 36, 37, 38, 39, 40, 41, 42, 43, 44, 45, 46, 47, 48, 49, 50, 51, 52, 53, 54, 55, 56, 57, 58, 59, 60, 61, 62, 63, 65, 76, 77, 78, 79, 80, 81, 82, 83, 84, 85, 86, 87] v v') = Q
  have hQ : ∀ (z : Int32) (u : Nat → Int32), okv u → mdf [1, 2, 3, 4, 5, 6, 7, 8, 9, 10, 11, 12, 13, 14, 15, 16, 17, 18, 19, 20, 21, 22, 23, 24, 25, 26, 27, 28, 29, 30, 31, 32, 33, 34, 35, 36, 37, 38, 39, 40, 41, 42, 43, 44, 45, 46, 47, 48, 49, 50, 51, 52, 53, 54, 55, 56, 57, 58, 59, 60, 61, 62, 63, 65, 76, 77, 78, 79, 80, 81, 82, 83, 84, 85, 86, 87] v u → Q (some (.int z)) u := by rw [← hQe]; exact fun z u h1 h2  => ⟨z, rfl, h1, h2⟩
  clear hQe
  have hm : mdf [1, 2, 3, 4, 5, 6, 7, 8, 9, 10, 11, 12, 13, 14, 15, 16, 17, 18, 19, 20, 21, 22, 23, 24, 25, 26, 27, 28, 29, 30, 31, 32, 33, 34, 35, 36, 37, 38, 39, 40, 41, 42, 43, 44, 45, 46, 47, 48, 49, 50, 51, 52, 53, 54, 55, 56, 57, 58, 59, 60, 61, 62, 63, 65, 76, 77, 78, 79, 80, 81, 82, 83, 84, 85, 86, 87] v v := mdf.rf
  show ST G mi_PG_finish 0 [(0, .ref 61), (1, .int (nI 2))] [] v 0 0 Q
  refine ST.lift (fun _ _ k => T_iload_n d_PG_finish_0 rfl k) ?_
  refine S_static (as := [.int (nI 2)]) (rest := []) d_PG_finish_1 rfl (jw_PG_isSession.jo (by decide)) lm_PG_133 jt_PG_isSession rfl (Nat.le_of_ble_eq_true rfl) (by decide) (by decide) (c_PG_isSession G v 2 (by omega)) (fun r v' hq => ?_)
  rw [hq.1, hq.2]
  clear hq r v'
  show ST G mi_PG_finish 4 [(0, .ref 61), (1, .int (nI 2))] [.int (nI 1)] v 0 0 _
  refine S_if_neN d_PG_finish_4 rfl (by omega) (fun _ => ?_) (fun c => by first | exact absurd c (by omega) | exact c.elim | exact absurd c (by decide) | exact absurd (by assumption) c | exact absurd c (by assumption))
  refine ST.lift (fun _ _ k => T_aload_n (v := .ref 61) d_PG_finish_9 rfl (Or.inr ⟨_, rfl⟩) k) ?_
  refine S_getfield d_PG_finish_10 fg_PG_34 (w61 _) rfl ?_
  refine ST.lift (fun _ _ k => T_iload_n d_PG_finish_13 rfl k) ?_
  refine S_aaload (C0 := "PasswordGate$Session") d_PG_finish_14 (by decide) (w264 _) rfl (vp_in_nI (by omega) (by omega)) ?_
  refine ST.lift (fun _ _ k => T_astore_n (L' := [(2, .ref 317), (0, .ref 61), (1, .int (nI 2))]) d_PG_finish_15 (by decide) rfl (Or.inr ⟨_, rfl⟩) k) ?_
  refine ST.lift (fun _ _ k => T_aload_n (v := .ref 317) d_PG_finish_16 rfl (Or.inr ⟨_, rfl⟩) k) ?_
  refine ST.lift (fun _ _ k => T_iconst (v := nI 1) d_PG_finish_17 (by decide) k) ?_
  refine S_virtual (as := [.int (nI 1)]) (rest := []) (b := 317) d_PG_finish_18 rfl (jw_Ss_take.jo (by decide)) lm_PG_139 ji_Ss_take js_Ss_take (w317 _) rfl rfl rfl (Nat.le_of_ble_eq_true rfl) (by decide) (by decide) (c_Ss_take_317_1 G v hv) (fun r u1 hq => ?_)
  obtain ⟨z4, hz4, hr, hv2, hm3⟩ := hq
  rw [hr]
  clear hr r
  have hm5 := hm.go hm3 (by intro i hi; simp only [List.mem_cons, List.not_mem_nil, or_false] at hi ⊢ <;> omega)
  show ST G mi_PG_finish 21 [(2, .ref 317), (0, .ref 61), (1, .int (nI 2))] [.int (nI z4)] u1 0 0 _
  refine S_if_eqN d_PG_finish_21 rfl (by omega) (fun c6 => ?_) (fun c6 => ?_)
  · refine ST.lift (fun _ _ k => T_iconst (v := nI 2) d_PG_finish_39 (by decide) k) ?_
    exact S_ret d_PG_finish_40 rfl rfl (by decide) (by decide) (hQ _ _ hv2 hm5)
  · refine ST.lift (fun _ _ k => T_aload_n (v := .ref 317) d_PG_finish_24 rfl (Or.inr ⟨_, rfl⟩) k) ?_
    refine ST.lift (fun _ _ k => T_aload_n (v := .ref 61) d_PG_finish_25 rfl (Or.inr ⟨_, rfl⟩) k) ?_
    refine S_getfield d_PG_finish_26 fg_PG_12 (w61 _) rfl ?_
    refine ST.lift (fun _ _ k => T_aload_n (v := .ref 61) d_PG_finish_29 rfl (Or.inr ⟨_, rfl⟩) k) ?_
    refine S_getfield d_PG_finish_30 fg_PG_21 (w61 _) rfl ?_
    refine S_virtual (as := [.ref 62, .ref 217]) (rest := []) (b := 317) d_PG_finish_33 rfl (jw_Ss_confirmServer.jo (by decide)) lm_PG_146 ji_Ss_confirmServer js_Ss_confirmServer (w317 _) rfl rfl rfl (Nat.le_of_ble_eq_true rfl) (by decide) (by decide) (c_Ss_confirmServer_317 G u1 hv2) (fun r u7 hq => ?_)
    obtain ⟨z10, hr, hv8, hm9⟩ := hq
    rw [hr]
    clear hr r
    have hm11 := hm5.go hm9 (by intro i hi; simp only [List.mem_cons, List.not_mem_nil, or_false] at hi ⊢ <;> omega)
    show ST G mi_PG_finish 36 [(2, .ref 317), (0, .ref 61), (1, .int (nI 2))] [.int z10] u7 0 0 _
    refine ST.lift (fun _ _ k => T_goto (tgt := 40) d_PG_finish_36 rfl k) ?_
    exact S_ret d_PG_finish_40 rfl rfl (by decide) (by decide) (hQ _ _ hv8 hm11)
set_option maxRecDepth 100000 in
set_option maxHeartbeats 4000000 in
theorem c_PG_accept_2 (G : GX) (v : Nat → Int32) (hv : okv v) : CS G mi_PG_accept [.ref 61, .int (nI 2)] v (fun r v' => ∃ z : Int32, r = some (.int z) ∧ okv v' ∧ mdf [1, 2, 3, 4, 5, 6, 7, 8, 9, 10, 11, 12, 13, 14, 15, 16, 17, 18, 19, 20, 21, 22, 23, 24, 25, 26, 27, 28, 29, 30, 31, 32, 33, 34, 35, 36, 37, 38, 39, 40, 41, 42, 43, 44, 45, 46, 47, 48, 49, 50, 51, 52, 53, 54, 55, 56, 57, 58, 59, 60, 61, 62, 63, 65, 76, 77, 78, 79, 80, 81, 82, 83, 84, 85, 86, 87] v v') := by
  refine CS.of (by decide) (Nat.le_of_ble_eq_true rfl) ?_
  generalize hQe : (fun (r : Option Value) (v' : Nat → Int32) => ∃ z : Int32, r = some (.int z) ∧ okv v' ∧ mdf [1, 2, 3, 4, 5, 6, 7, 8, 9, 10, 11, 12, 13, 14, 15, 16, 17, 18, 19, 20, 21, 22, 23, 24, 25, 26, 27, 28, 29, 30, 31, 32, 33, 34, 35, 36, 37, 38, 39, 40, 41, 42, 43, 44, 45, 46, 47, 48, 49, 50, 51, 52, 53, 54, 55, 56, 57, 58, 59, 60, 61, 62, 63, 65, 76, 77, 78, 79, 80, 81, 82, 83, 84, 85, 86, 87] v v') = Q
  have hQ : ∀ (z : Int32) (u : Nat → Int32), okv u → mdf [1, 2, 3, 4, 5, 6, 7, 8, 9, 10, 11, 12, 13, 14, 15, 16, 17, 18, 19, 20, 21, 22, 23, 24, 25, 26, 27, 28, 29, 30, 31, 32, 33, 34, 35, 36, 37, 38, 39, 40, 41, 42, 43, 44, 45, 46, 47, 48, 49, 50, 51, 52, 53, 54, 55, 56, 57, 58, 59, 60, 61, 62, 63, 65, 76, 77, 78, 79, 80, 81, 82, 83, 84, 85, 86, 87] v u → Q (some (.int z)) u := by rw [← hQe]; exact fun z u h1 h2  => ⟨z, rfl, h1, h2⟩
  clear hQe
  have hm : mdf [1, 2, 3, 4, 5, 6, 7, 8, 9, 10, 11, 12, 13, 14, 15, 16, 17, 18, 19, 20, 21, 22, 23, 24, 25, 26, 27, 28, 29, 30, 31, 32, 33, 34, 35, 36, 37, 38, 39, 40, 41, 42, 43, 44, 45, 46, 47, 48, 49, 50, 51, 52, 53, 54, 55, 56, 57, 58, 59, 60, 61, 62, 63, 65, 76, 77, 78, 79, 80, 81, 82, 83, 84, 85, 86, 87] v v := mdf.rf
  show ST G mi_PG_accept 0 [(0, .ref 61), (1, .int (nI 2))] [] v 0 0 Q
  refine ST.lift (fun _ _ k => T_iload_n d_PG_accept_0 rfl k) ?_
  refine S_static (as := [.int (nI 2)]) (rest := []) d_PG_accept_1 rfl (jw_PG_isSession.jo (by decide)) lm_PG_133 jt_PG_isSession rfl (Nat.le_of_ble_eq_true rfl) (by decide) (by decide) (c_PG_isSession G v 2 (by omega)) (fun r v' hq => ?_)
  rw [hq.1, hq.2]
  clear hq r v'
  show ST G mi_PG_accept 4 [(0, .ref 61), (1, .int (nI 2))] [.int (nI 1)] v 0 0 _
  refine S_if_neN d_PG_accept_4 rfl (by omega) (fun _ => ?_) (fun c => by first | exact absurd c (by omega) | exact c.elim | exact absurd c (by decide) | exact absurd (by assumption) c | exact absurd c (by assumption))
  refine ST.lift (fun _ _ k => T_aload_n (v := .ref 61) d_PG_accept_9 rfl (Or.inr ⟨_, rfl⟩) k) ?_
  refine S_getfield d_PG_accept_10 fg_PG_34 (w61 _) rfl ?_
  refine ST.lift (fun _ _ k => T_iload_n d_PG_accept_13 rfl k) ?_
  refine S_aaload (C0 := "PasswordGate$Session") d_PG_accept_14 (by decide) (w264 _) rfl (vp_in_nI (by omega) (by omega)) ?_
  refine ST.lift (fun _ _ k => T_astore_n (L' := [(2, .ref 317), (0, .ref 61), (1, .int (nI 2))]) d_PG_accept_15 (by decide) rfl (Or.inr ⟨_, rfl⟩) k) ?_
  refine ST.lift (fun _ _ k => T_aload_n (v := .ref 317) d_PG_accept_16 rfl (Or.inr ⟨_, rfl⟩) k) ?_
  refine ST.lift (fun _ _ k => T_iconst (v := nI 2) d_PG_accept_17 (by decide) k) ?_
  refine S_virtual (as := [.int (nI 2)]) (rest := []) (b := 317) d_PG_accept_18 rfl (jw_Ss_take.jo (by decide)) lm_PG_139 ji_Ss_take js_Ss_take (w317 _) rfl rfl rfl (Nat.le_of_ble_eq_true rfl) (by decide) (by decide) (c_Ss_take_317_2 G v hv) (fun r u1 hq => ?_)
  obtain ⟨z4, hz4, hr, hv2, hm3⟩ := hq
  rw [hr]
  clear hr r
  have hm5 := hm.go hm3 (by intro i hi; simp only [List.mem_cons, List.not_mem_nil, or_false] at hi ⊢ <;> omega)
  show ST G mi_PG_accept 21 [(2, .ref 317), (0, .ref 61), (1, .int (nI 2))] [.int (nI z4)] u1 0 0 _
  refine S_if_eqN d_PG_accept_21 rfl (by omega) (fun c6 => ?_) (fun c6 => ?_)
  · refine ST.lift (fun _ _ k => T_iconst (v := nI 2) d_PG_accept_31 (by decide) k) ?_
    exact S_ret d_PG_accept_32 rfl rfl (by decide) (by decide) (hQ _ _ hv2 hm5)
  · refine ST.lift (fun _ _ k => T_aload_n (v := .ref 317) d_PG_accept_24 rfl (Or.inr ⟨_, rfl⟩) k) ?_
    refine S_virtual (as := []) (rest := []) (b := 317) d_PG_accept_25 rfl (jw_Ss_confirmClient.jo (by decide)) lm_PG_150 ji_Ss_confirmClient js_Ss_confirmClient (w317 _) rfl rfl rfl (Nat.le_of_ble_eq_true rfl) (by decide) (by decide) (c_Ss_confirmClient_317 G u1 hv2) (fun r u7 hq => ?_)
    obtain ⟨z10, hr, hv8, hm9⟩ := hq
    rw [hr]
    clear hr r
    have hm11 := hm5.go hm9 (by intro i hi; simp only [List.mem_cons, List.not_mem_nil, or_false] at hi ⊢ <;> omega)
    show ST G mi_PG_accept 28 [(2, .ref 317), (0, .ref 61), (1, .int (nI 2))] [.int z10] u7 0 0 _
    refine ST.lift (fun _ _ k => T_goto (tgt := 32) d_PG_accept_28 rfl k) ?_
    exact S_ret d_PG_accept_32 rfl rfl (by decide) (by decide) (hQ _ _ hv8 hm11)
set_option maxRecDepth 100000 in
set_option maxHeartbeats 4000000 in
theorem c_PG_begin_3 (G : GX) (v : Nat → Int32) (usr : Nat) (b_usr : usr ≤ 7) (hv : okv v) : CS G mi_PG_begin [.ref 61, .int (nI 3), .int (nI usr)] v (fun r v' => r = some (.int (nI 0)) ∧ okv v' ∧ mdf [1, 2, 3, 4, 5, 6, 7, 8, 9, 10, 11, 12, 13, 14, 15, 16, 17, 18, 19, 20, 21, 22, 23, 24, 25, 26, 27, 28, 29, 30, 31, 32, 33, 34, 35, 36, 37, 38, 39, 40, 41, 42, 43, 44, 45, 46, 47, 48, 49, 50, 51, 52, 53, 54, 55, 56, 57, 58, 59, 60, 61, 62, 63, 64, 65, 76, 77, 78, 79, 80, 81, 82, 83, 84, 85, 86, 87] v v' ∧ v' 64 = nI 0) := by
  refine CS.of (by decide) (Nat.le_of_ble_eq_true rfl) ?_
  generalize hQe : (fun (r : Option Value) (v' : Nat → Int32) => r = some (.int (nI 0)) ∧ okv v' ∧ mdf [1, 2, 3, 4, 5, 6, 7, 8, 9, 10, 11, 12, 13, 14, 15, 16, 17, 18, 19, 20, 21, 22, 23, 24, 25, 26, 27, 28, 29, 30, 31, 32, 33, 34, 35, 36, 37, 38, 39, 40, 41, 42, 43, 44, 45, 46, 47, 48, 49, 50, 51, 52, 53, 54, 55, 56, 57, 58, 59, 60, 61, 62, 63, 64, 65, 76, 77, 78, 79, 80, 81, 82, 83, 84, 85, 86, 87] v v' ∧ v' 64 = nI 0) = Q
  have hQ : ∀ u, okv u → mdf [1, 2, 3, 4, 5, 6, 7, 8, 9, 10, 11, 12, 13, 14, 15, 16, 17, 18, 19, 20, 21, 22, 23, 24, 25, 26, 27, 28, 29, 30, 31, 32, 33, 34, 35, 36, 37, 38, 39, 40, 41, 42, 43, 44, 45, 46, 47, 48, 49, 50, 51, 52, 53, 54, 55, 56, 57, 58, 59, 60, 61, 62, 63, 64, 65, 76, 77, 78, 79, 80, 81, 82, 83, 84, 85, 86, 87] v u → u 64 = nI 0 → Q (some (.int (nI 0))) u := by rw [← hQe]; exact fun u h1 h2 f0 => ⟨rfl, h1, h2, f0⟩
  clear hQe
  have hm : mdf [1, 2, 3, 4, 5, 6, 7, 8, 9, 10, 11, 12, 13, 14, 15, 16, 17, 18, 19, 20, 21, 22, 23, 24, 25, 26, 27, 28, 29, 30, 31, 32, 33, 34, 35, 36, 37, 38, 39, 40, 41, 42, 43, 44, 45, 46, 47, 48, 49, 50, 51, 52, 53, 54, 55, 56, 57, 58, 59, 60, 61, 62, 63, 64, 65, 76, 77, 78, 79, 80, 81, 82, 83, 84, 85, 86, 87] v v := mdf.rf
  show ST G mi_PG_begin 0 [(0, .ref 61), (1, .int (nI 3)), (2, .int (nI usr))] [] v 0 0 Q
  refine ST.lift (fun _ _ k => T_iload_n d_PG_begin_0 rfl k) ?_
  refine S_static (as := [.int (nI 3)]) (rest := []) d_PG_begin_1 rfl (jw_PG_isSession.jo (by decide)) lm_PG_133 jt_PG_isSession rfl (Nat.le_of_ble_eq_true rfl) (by decide) (by decide) (c_PG_isSession G v 3 (by omega)) (fun r v' hq => ?_)
  rw [hq.1, hq.2]
  clear hq r v'
  show ST G mi_PG_begin 4 [(0, .ref 61), (1, .int (nI 3)), (2, .int (nI usr))] [.int (nI 1)] v 0 0 _
  refine S_if_eqN d_PG_begin_4 rfl (by omega) (fun c => by first | exact absurd c (by omega) | exact c.elim | exact absurd c (by decide) | exact absurd (by assumption) c | exact absurd c (by assumption)) (fun _ => ?_)
  refine ST.lift (fun _ _ k => T_iload_n d_PG_begin_7 rfl k) ?_
  refine S_static (as := [.int (nI usr)]) (rest := []) d_PG_begin_8 rfl (jw_PG_isUser.jo (by decide)) lm_PG_126 jt_PG_isUser rfl (Nat.le_of_ble_eq_true rfl) (by decide) (by decide) (c_PG_isUser G v usr (by omega)) (fun r v' hq => ?_)
  rw [hq.1, hq.2]
  clear hq r v'
  show ST G mi_PG_begin 11 [(0, .ref 61), (1, .int (nI 3)), (2, .int (nI usr))] [.int (nI 1)] v 0 0 _
  refine S_if_eqN d_PG_begin_11 rfl (by omega) (fun c => by first | exact absurd c (by omega) | exact c.elim | exact absurd c (by decide) | exact absurd (by assumption) c | exact absurd c (by assumption)) (fun _ => ?_)
  refine ST.lift (fun _ _ k => T_iconst (v := nI 1) d_PG_begin_14 (by decide) k) ?_
  refine ST.lift (fun _ _ k => T_goto (tgt := 19) d_PG_begin_15 rfl k) ?_
  refine ST.lift (fun _ _ k => T_istore_n (L' := [(3, .int (nI 1)), (0, .ref 61), (1, .int (nI 3)), (2, .int (nI usr))]) d_PG_begin_19 (by decide) rfl k) ?_
  refine ST.lift (fun _ _ k => T_iload_n d_PG_begin_20 rfl k) ?_
  refine S_if_eqN d_PG_begin_21 rfl (by omega) (fun c => by first | exact absurd c (by omega) | exact c.elim | exact absurd c (by decide) | exact absurd (by assumption) c | exact absurd c (by assumption)) (fun _ => ?_)
  refine ST.lift (fun _ _ k => T_aload_n (v := .ref 61) d_PG_begin_24 rfl (Or.inr ⟨_, rfl⟩) k) ?_
  refine S_getfield d_PG_begin_25 fg_PG_34 (w61 _) rfl ?_
  refine ST.lift (fun _ _ k => T_iload_n d_PG_begin_28 rfl k) ?_
  refine S_aaload (C0 := "PasswordGate$Session") d_PG_begin_29 (by decide) (w264 _) rfl (vp_in_nI (by omega) (by omega)) ?_
  refine ST.lift (fun _ _ k => T_aload_n (v := .ref 61) d_PG_begin_30 rfl (Or.inr ⟨_, rfl⟩) k) ?_
  refine S_getfield d_PG_begin_31 fg_PG_12 (w61 _) rfl ?_
  refine ST.lift (fun _ _ k => T_iload_n d_PG_begin_34 rfl k) ?_
  refine ST.lift (fun _ _ k => T_aload_n (v := .ref 61) d_PG_begin_35 rfl (Or.inr ⟨_, rfl⟩) k) ?_
  refine S_getfield d_PG_begin_36 fg_PG_42 (w61 _) rfl ?_
  refine S_virtual (as := [.ref 62, .int (nI usr), .ref 369]) (rest := []) (b := 343) d_PG_begin_39 rfl (jw_Ss_start.jo (by decide)) lm_PG_136 ji_Ss_start js_Ss_start (w343 _) rfl rfl rfl (Nat.le_of_ble_eq_true rfl) (by decide) (by decide) (c_Ss_start_343 G v usr (by omega) 369 370 200 64 ⟨w369, a370, by decide, u369_1, by decide, by decide⟩ hv) (fun r u1 hq => ?_)
  obtain ⟨hr, hv2, hm3⟩ := hq
  rw [hr]
  clear hr r
  have hm4 := hm.go hm3 (by intro i hi; simp only [List.mem_cons, List.not_mem_nil, or_false] at hi ⊢ <;> omega)
  show ST G mi_PG_begin 42 [(3, .int (nI 1)), (0, .ref 61), (1, .int (nI 3)), (2, .int (nI usr))] [] u1 0 0 _
  refine ST.lift (fun _ _ k => T_aload_n (v := .ref 61) d_PG_begin_42 rfl (Or.inr ⟨_, rfl⟩) k) ?_
  refine S_getfield d_PG_begin_43 fg_PG_42 (w61 _) rfl ?_
  refine S_virtual (as := []) (rest := []) (b := 369) d_PG_begin_46 rfl (jw_By_clear.jo (by decide)) lm_PG_71 ji_By_clear js_By_clear (w369 _) rfl rfl rfl (Nat.le_of_ble_eq_true rfl) (by decide) (by decide) (c_By_clear G u1 369 370 200 64 ⟨w369, a370, by decide, u369_1, by decide, by decide⟩ hv2) (fun r v' hq => ?_)
  rw [hq.1, hq.2]
  clear hq r v'
  show ST G mi_PG_begin 49 [(3, .int (nI 1)), (0, .ref 61), (1, .int (nI 3)), (2, .int (nI usr))] [] (va_up u1 64 (nI 0)) 0 0 _
  have hv6 := hv2.up (j := 64) (c := 200) (k := 0) (by decide) (by omega)
  have hm7 := hm4.go (mdf.up (v := u1) (j := 64) (x := (nI 0))) (by intro i hi; simp only [List.mem_cons, List.not_mem_nil, or_false] at hi ⊢ <;> omega)
  have e_u5 : (va_up u1 64 (nI 0)) 64 = (nI 0) := by simp [va_up]
  generalize va_up u1 64 (nI 0) = u5 at hv6 hm7 e_u5 ⊢
  refine ST.lift (fun _ _ k => T_iload_n d_PG_begin_49 rfl k) ?_
  refine S_if_eqN d_PG_begin_50 rfl (by omega) (fun c => by first | exact absurd c (by omega) | exact c.elim | exact absurd c (by decide) | exact absurd (by assumption) c | exact absurd c (by assumption)) (fun _ => ?_)
  refine ST.lift (fun _ _ k => T_iconst (v := nI 0) d_PG_begin_53 (by decide) k) ?_
  refine ST.lift (fun _ _ k => T_goto (tgt := 58) d_PG_begin_54 rfl k) ?_
  refine S_topi (y := nI 0) (congrArg nI (by omega)) ?_
  exact S_ret d_PG_begin_58 rfl rfl (by decide) (by decide) (hQ _ hv6 hm7 (e_u5.trans (congrArg nI (by omega))))
set_option maxRecDepth 100000 in
set_option maxHeartbeats 4000000 in
theorem c_PG_begin_3_neg (G : GX) (v : Nat → Int32) (x : Int32) (hx_u : x < 0) (hv : okv v) : CS G mi_PG_begin [.ref 61, .int (nI 3), .int x] v (fun r v' => r = some (.int (-1)) ∧ okv v' ∧ mdf [64] v v' ∧ v' 64 = nI 0) := by
  refine CS.of (by decide) (Nat.le_of_ble_eq_true rfl) ?_
  generalize hQe : (fun (r : Option Value) (v' : Nat → Int32) => r = some (.int (-1)) ∧ okv v' ∧ mdf [64] v v' ∧ v' 64 = nI 0) = Q
  have hQ : ∀ u, okv u → mdf [64] v u → u 64 = nI 0 → Q (some (.int (-1))) u := by rw [← hQe]; exact fun u h1 h2 f0 => ⟨rfl, h1, h2, f0⟩
  clear hQe
  have hm : mdf [64] v v := mdf.rf
  show ST G mi_PG_begin 0 [(0, .ref 61), (1, .int (nI 3)), (2, .int x)] [] v 0 0 Q
  refine ST.lift (fun _ _ k => T_iload_n d_PG_begin_0 rfl k) ?_
  refine S_static (as := [.int (nI 3)]) (rest := []) d_PG_begin_1 rfl (jw_PG_isSession.jo (by decide)) lm_PG_133 jt_PG_isSession rfl (Nat.le_of_ble_eq_true rfl) (by decide) (by decide) (c_PG_isSession G v 3 (by omega)) (fun r v' hq => ?_)
  rw [hq.1, hq.2]
  clear hq r v'
  show ST G mi_PG_begin 4 [(0, .ref 61), (1, .int (nI 3)), (2, .int x)] [.int (nI 1)] v 0 0 _
  refine S_if_eqN d_PG_begin_4 rfl (by omega) (fun c => by first | exact absurd c (by omega) | exact c.elim | exact absurd c (by decide) | exact absurd (by assumption) c | exact absurd c (by assumption)) (fun _ => ?_)
  refine ST.lift (fun _ _ k => T_iload_n d_PG_begin_7 rfl k) ?_
  refine S_static (as := [.int x]) (rest := []) d_PG_begin_8 rfl (jw_PG_isUser.jo (by decide)) lm_PG_126 jt_PG_isUser rfl (Nat.le_of_ble_eq_true rfl) (by decide) (by decide) (c_PG_isUser_neg G v x hx_u) (fun r v' hq => ?_)
  rw [hq.1, hq.2]
  clear hq r v'
  show ST G mi_PG_begin 11 [(0, .ref 61), (1, .int (nI 3)), (2, .int x)] [.int (nI 0)] v 0 0 _
  refine S_if_eqN d_PG_begin_11 rfl (by omega) (fun _ => ?_) (fun c => by first | exact absurd c (by omega) | exact c.elim | exact absurd c (by decide) | exact absurd (by assumption) c | exact absurd c (by assumption))
  refine ST.lift (fun _ _ k => T_iconst (v := nI 0) d_PG_begin_18 (by decide) k) ?_
  refine ST.lift (fun _ _ k => T_istore_n (L' := [(3, .int (nI 0)), (0, .ref 61), (1, .int (nI 3)), (2, .int x)]) d_PG_begin_19 (by decide) rfl k) ?_
  refine ST.lift (fun _ _ k => T_iload_n d_PG_begin_20 rfl k) ?_
  refine S_if_eqN d_PG_begin_21 rfl (by omega) (fun _ => ?_) (fun c => by first | exact absurd c (by omega) | exact c.elim | exact absurd c (by decide) | exact absurd (by assumption) c | exact absurd c (by assumption))
  refine ST.lift (fun _ _ k => T_aload_n (v := .ref 61) d_PG_begin_42 rfl (Or.inr ⟨_, rfl⟩) k) ?_
  refine S_getfield d_PG_begin_43 fg_PG_42 (w61 _) rfl ?_
  refine S_virtual (as := []) (rest := []) (b := 369) d_PG_begin_46 rfl (jw_By_clear.jo (by decide)) lm_PG_71 ji_By_clear js_By_clear (w369 _) rfl rfl rfl (Nat.le_of_ble_eq_true rfl) (by decide) (by decide) (c_By_clear G v 369 370 200 64 ⟨w369, a370, by decide, u369_1, by decide, by decide⟩ hv) (fun r v' hq => ?_)
  rw [hq.1, hq.2]
  clear hq r v'
  show ST G mi_PG_begin 49 [(3, .int (nI 0)), (0, .ref 61), (1, .int (nI 3)), (2, .int x)] [] (va_up v 64 (nI 0)) 0 0 _
  have hv2 := hv.up (j := 64) (c := 200) (k := 0) (by decide) (by omega)
  have hm3 := hm.go (mdf.up (v := v) (j := 64) (x := (nI 0))) (by intro i hi; simp only [List.mem_cons, List.not_mem_nil, or_false] at hi ⊢ <;> omega)
  have e_u1 : (va_up v 64 (nI 0)) 64 = (nI 0) := by simp [va_up]
  generalize va_up v 64 (nI 0) = u1 at hv2 hm3 e_u1 ⊢
  refine ST.lift (fun _ _ k => T_iload_n d_PG_begin_49 rfl k) ?_
  refine S_if_eqN d_PG_begin_50 rfl (by omega) (fun _ => ?_) (fun c => by first | exact absurd c (by omega) | exact c.elim | exact absurd c (by decide) | exact absurd (by assumption) c | exact absurd c (by assumption))
  refine ST.lift (fun _ _ k => T_iconst (v := -1) d_PG_begin_57 (by decide) k) ?_
  exact S_ret d_PG_begin_58 rfl rfl (by decide) (by decide) (hQ _ hv2 hm3 (e_u1.trans (congrArg nI (by omega))))
set_option maxRecDepth 100000 in
set_option maxHeartbeats 4000000 in
theorem c_PG_begin_3_big (G : GX) (v : Nat → Int32) (x : Int32) (h0_u : ¬ x < 0) (hx_u : nI 8 ≤ x) (hv : okv v) : CS G mi_PG_begin [.ref 61, .int (nI 3), .int x] v (fun r v' => r = some (.int (-1)) ∧ okv v' ∧ mdf [64] v v' ∧ v' 64 = nI 0) := by
  refine CS.of (by decide) (Nat.le_of_ble_eq_true rfl) ?_
  generalize hQe : (fun (r : Option Value) (v' : Nat → Int32) => r = some (.int (-1)) ∧ okv v' ∧ mdf [64] v v' ∧ v' 64 = nI 0) = Q
  have hQ : ∀ u, okv u → mdf [64] v u → u 64 = nI 0 → Q (some (.int (-1))) u := by rw [← hQe]; exact fun u h1 h2 f0 => ⟨rfl, h1, h2, f0⟩
  clear hQe
  have hm : mdf [64] v v := mdf.rf
  show ST G mi_PG_begin 0 [(0, .ref 61), (1, .int (nI 3)), (2, .int x)] [] v 0 0 Q
  refine ST.lift (fun _ _ k => T_iload_n d_PG_begin_0 rfl k) ?_
  refine S_static (as := [.int (nI 3)]) (rest := []) d_PG_begin_1 rfl (jw_PG_isSession.jo (by decide)) lm_PG_133 jt_PG_isSession rfl (Nat.le_of_ble_eq_true rfl) (by decide) (by decide) (c_PG_isSession G v 3 (by omega)) (fun r v' hq => ?_)
  rw [hq.1, hq.2]
  clear hq r v'
  show ST G mi_PG_begin 4 [(0, .ref 61), (1, .int (nI 3)), (2, .int x)] [.int (nI 1)] v 0 0 _
  refine S_if_eqN d_PG_begin_4 rfl (by omega) (fun c => by first | exact absurd c (by omega) | exact c.elim | exact absurd c (by decide) | exact absurd (by assumption) c | exact absurd c (by assumption)) (fun _ => ?_)
  refine ST.lift (fun _ _ k => T_iload_n d_PG_begin_7 rfl k) ?_
  refine S_static (as := [.int x]) (rest := []) d_PG_begin_8 rfl (jw_PG_isUser.jo (by decide)) lm_PG_126 jt_PG_isUser rfl (Nat.le_of_ble_eq_true rfl) (by decide) (by decide) (c_PG_isUser_big G v x h0_u hx_u) (fun r v' hq => ?_)
  rw [hq.1, hq.2]
  clear hq r v'
  show ST G mi_PG_begin 11 [(0, .ref 61), (1, .int (nI 3)), (2, .int x)] [.int (nI 0)] v 0 0 _
  refine S_if_eqN d_PG_begin_11 rfl (by omega) (fun _ => ?_) (fun c => by first | exact absurd c (by omega) | exact c.elim | exact absurd c (by decide) | exact absurd (by assumption) c | exact absurd c (by assumption))
  refine ST.lift (fun _ _ k => T_iconst (v := nI 0) d_PG_begin_18 (by decide) k) ?_
  refine ST.lift (fun _ _ k => T_istore_n (L' := [(3, .int (nI 0)), (0, .ref 61), (1, .int (nI 3)), (2, .int x)]) d_PG_begin_19 (by decide) rfl k) ?_
  refine ST.lift (fun _ _ k => T_iload_n d_PG_begin_20 rfl k) ?_
  refine S_if_eqN d_PG_begin_21 rfl (by omega) (fun _ => ?_) (fun c => by first | exact absurd c (by omega) | exact c.elim | exact absurd c (by decide) | exact absurd (by assumption) c | exact absurd c (by assumption))
  refine ST.lift (fun _ _ k => T_aload_n (v := .ref 61) d_PG_begin_42 rfl (Or.inr ⟨_, rfl⟩) k) ?_
  refine S_getfield d_PG_begin_43 fg_PG_42 (w61 _) rfl ?_
  refine S_virtual (as := []) (rest := []) (b := 369) d_PG_begin_46 rfl (jw_By_clear.jo (by decide)) lm_PG_71 ji_By_clear js_By_clear (w369 _) rfl rfl rfl (Nat.le_of_ble_eq_true rfl) (by decide) (by decide) (c_By_clear G v 369 370 200 64 ⟨w369, a370, by decide, u369_1, by decide, by decide⟩ hv) (fun r v' hq => ?_)
  rw [hq.1, hq.2]
  clear hq r v'
  show ST G mi_PG_begin 49 [(3, .int (nI 0)), (0, .ref 61), (1, .int (nI 3)), (2, .int x)] [] (va_up v 64 (nI 0)) 0 0 _
  have hv2 := hv.up (j := 64) (c := 200) (k := 0) (by decide) (by omega)
  have hm3 := hm.go (mdf.up (v := v) (j := 64) (x := (nI 0))) (by intro i hi; simp only [List.mem_cons, List.not_mem_nil, or_false] at hi ⊢ <;> omega)
  have e_u1 : (va_up v 64 (nI 0)) 64 = (nI 0) := by simp [va_up]
  generalize va_up v 64 (nI 0) = u1 at hv2 hm3 e_u1 ⊢
  refine ST.lift (fun _ _ k => T_iload_n d_PG_begin_49 rfl k) ?_
  refine S_if_eqN d_PG_begin_50 rfl (by omega) (fun _ => ?_) (fun c => by first | exact absurd c (by omega) | exact c.elim | exact absurd c (by decide) | exact absurd (by assumption) c | exact absurd c (by assumption))
  refine ST.lift (fun _ _ k => T_iconst (v := -1) d_PG_begin_57 (by decide) k) ?_
  exact S_ret d_PG_begin_58 rfl rfl (by decide) (by decide) (hQ _ hv2 hm3 (e_u1.trans (congrArg nI (by omega))))
set_option maxRecDepth 100000 in
set_option maxHeartbeats 4000000 in
theorem c_PG_answer_3 (G : GX) (v : Nat → Int32) (hv : okv v) : CS G mi_PG_answer [.ref 61, .int (nI 3)] v (fun r v' => ∃ z : Int32, r = some (.int z) ∧ okv v' ∧ mdf [1, 2, 3, 4, 5, 6, 7, 8, 9, 10, 11, 12, 13, 14, 15, 16, 17, 18, 19, 20, 21, 22, 23, 24, 25, 26, 27, 28, 29, 30, 31, 32, 33, 34, 35, 36, 37, 38, 39, 40, 41, 42, 43, 44, 45, 46, 47, 48, 49, 50, 51, 52, 53, 54, 55, 56, 57, 58, 59, 60, 61, 62, 63, 65, 76, 77, 78, 79, 80, 81, 82, 83, 84, 85, 86, 87] v v') := by
  refine CS.of (by decide) (Nat.le_of_ble_eq_true rfl) ?_
  generalize hQe : (fun (r : Option Value) (v' : Nat → Int32) => ∃ z : Int32, r = some (.int z) ∧ okv v' ∧ mdf [1, 2, 3, 4, 5, 6, 7, 8, 9, 10, 11, 12, 13, 14, 15, 16, 17, 18, 19, 20, 21, 22, 23, 24, 25, 26, 27, 28, 29, 30, 31, 32, 33, 34, 35, 36, 37, 38, 39, 40, 41, 42, 43, 44, 45, 46, 47, 48, 49, 50, 51, 52, 53, 54, 55, 56, 57, 58, 59, 60, 61, 62, 63, 65, 76, 77, 78, 79, 80, 81, 82, 83, 84, 85, 86, 87] v v') = Q
  have hQ : ∀ (z : Int32) (u : Nat → Int32), okv u → mdf [1, 2, 3, 4, 5, 6, 7, 8, 9, 10, 11, 12, 13, 14, 15, 16, 17, 18, 19, 20, 21, 22, 23, 24, 25, 26, 27, 28, 29, 30, 31, 32, 33, 34, 35, 36, 37, 38, 39, 40, 41, 42, 43, 44, 45, 46, 47, 48, 49, 50, 51, 52, 53, 54, 55, 56, 57, 58, 59, 60, 61, 62, 63, 65, 76, 77, 78, 79, 80, 81, 82, 83, 84, 85, 86, 87] v u → Q (some (.int z)) u := by rw [← hQe]; exact fun z u h1 h2  => ⟨z, rfl, h1, h2⟩
  clear hQe
  have hm : mdf [1, 2, 3, 4, 5, 6, 7, 8, 9, 10, 11, 12, 13, 14, 15, 16, 17, 18, 19, 20, 21, 22, 23, 24, 25, 26, 27, 28, 29, 30, 31, 32, 33, 34, 35, 36, 37, 38, 39, 40, 41, 42, 43, 44, 45, 46, 47, 48, 49, 50, 51, 52, 53, 54, 55, 56, 57, 58, 59, 60, 61, 62, 63, 65, 76, 77, 78, 79, 80, 81, 82, 83, 84, 85, 86, 87] v v := mdf.rf
  show ST G mi_PG_answer 0 [(0, .ref 61), (1, .int (nI 3))] [] v 0 0 Q
  refine ST.lift (fun _ _ k => T_iload_n d_PG_answer_0 rfl k) ?_
  refine S_static (as := [.int (nI 3)]) (rest := []) d_PG_answer_1 rfl (jw_PG_isSession.jo (by decide)) lm_PG_133 jt_PG_isSession rfl (Nat.le_of_ble_eq_true rfl) (by decide) (by decide) (c_PG_isSession G v 3 (by omega)) (fun r v' hq => ?_)
  rw [hq.1, hq.2]
  clear hq r v'
  show ST G mi_PG_answer 4 [(0, .ref 61), (1, .int (nI 3))] [.int (nI 1)] v 0 0 _
  refine S_if_neN d_PG_answer_4 rfl (by omega) (fun _ => ?_) (fun c => by first | exact absurd c (by omega) | exact c.elim | exact absurd c (by decide) | exact absurd (by assumption) c | exact absurd c (by assumption))
  refine ST.lift (fun _ _ k => T_aload_n (v := .ref 61) d_PG_answer_9 rfl (Or.inr ⟨_, rfl⟩) k) ?_
  refine S_getfield d_PG_answer_10 fg_PG_34 (w61 _) rfl ?_
  refine ST.lift (fun _ _ k => T_iload_n d_PG_answer_13 rfl k) ?_
  refine S_aaload (C0 := "PasswordGate$Session") d_PG_answer_14 (by decide) (w264 _) rfl (vp_in_nI (by omega) (by omega)) ?_
  refine ST.lift (fun _ _ k => T_astore_n (L' := [(2, .ref 343), (0, .ref 61), (1, .int (nI 3))]) d_PG_answer_15 (by decide) rfl (Or.inr ⟨_, rfl⟩) k) ?_
  refine ST.lift (fun _ _ k => T_aload_n (v := .ref 343) d_PG_answer_16 rfl (Or.inr ⟨_, rfl⟩) k) ?_
  refine ST.lift (fun _ _ k => T_iconst (v := nI 0) d_PG_answer_17 (by decide) k) ?_
  refine S_virtual (as := [.int (nI 0)]) (rest := []) (b := 343) d_PG_answer_18 rfl (jw_Ss_take.jo (by decide)) lm_PG_139 ji_Ss_take js_Ss_take (w343 _) rfl rfl rfl (Nat.le_of_ble_eq_true rfl) (by decide) (by decide) (c_Ss_take_343_0 G v hv) (fun r u1 hq => ?_)
  obtain ⟨z4, hz4, hr, hv2, hm3⟩ := hq
  rw [hr]
  clear hr r
  have hm5 := hm.go hm3 (by intro i hi; simp only [List.mem_cons, List.not_mem_nil, or_false] at hi ⊢ <;> omega)
  show ST G mi_PG_answer 21 [(2, .ref 343), (0, .ref 61), (1, .int (nI 3))] [.int (nI z4)] u1 0 0 _
  refine S_if_eqN d_PG_answer_21 rfl (by omega) (fun c6 => ?_) (fun c6 => ?_)
  · refine ST.lift (fun _ _ k => T_iconst (v := nI 2) d_PG_answer_43 (by decide) k) ?_
    exact S_ret d_PG_answer_44 rfl rfl (by decide) (by decide) (hQ _ _ hv2 hm5)
  · refine ST.lift (fun _ _ k => T_aload_n (v := .ref 61) d_PG_answer_24 rfl (Or.inr ⟨_, rfl⟩) k) ?_
    refine S_getfield d_PG_answer_25 fg_PG_28 (w61 _) rfl ?_
    refine ST.lift (fun _ _ k => T_aload_n (v := .ref 61) d_PG_answer_28 rfl (Or.inr ⟨_, rfl⟩) k) ?_
    refine S_getfield d_PG_answer_29 fg_PG_12 (w61 _) rfl ?_
    refine ST.lift (fun _ _ k => T_aload_n (v := .ref 61) d_PG_answer_32 rfl (Or.inr ⟨_, rfl⟩) k) ?_
    refine S_getfield d_PG_answer_33 fg_PG_21 (w61 _) rfl ?_
    refine ST.lift (fun _ _ k => T_aload_n (v := .ref 343) d_PG_answer_36 rfl (Or.inr ⟨_, rfl⟩) k) ?_
    refine S_virtual (as := [.ref 62, .ref 217, .ref 343]) (rest := []) (b := 231) d_PG_answer_37 rfl (jw_Se_reply.jo (by decide)) lm_PG_142 ji_Se_reply js_Se_reply (w231 _) rfl rfl rfl (Nat.le_of_ble_eq_true rfl) (by decide) (by decide) (c_Se_reply_343 G u1 hv2) (fun r u7 hq => ?_)
    obtain ⟨z10, hr, hv8, hm9⟩ := hq
    rw [hr]
    clear hr r
    have hm11 := hm5.go hm9 (by intro i hi; simp only [List.mem_cons, List.not_mem_nil, or_false] at hi ⊢ <;> omega)
    show ST G mi_PG_answer 40 [(2, .ref 343), (0, .ref 61), (1, .int (nI 3))] [.int z10] u7 0 0 _
    refine ST.lift (fun _ _ k => T_goto (tgt := 44) d_PG_answer_40 rfl k) ?_
    exact S_ret d_PG_answer_44 rfl rfl (by decide) (by decide) (hQ _ _ hv8 hm11)
set_option maxRecDepth 100000 in
set_option maxHeartbeats 4000000 in
theorem c_PG_finish_3 (G : GX) (v : Nat → Int32) (hv : okv v) : CS G mi_PG_finish [.ref 61, .int (nI 3)] v (fun r v' => ∃ z : Int32, r = some (.int z) ∧ okv v' ∧ mdf [1, 2, 3, 4, 5, 6, 7, 8, 9, 10, 11, 12, 13, 14, 15, 16, 17, 18, 19, 20, 21, 22, 23, 24, 25, 26, 27, 28, 29, 30, 31, 32, 33, 34, 35, 36, 37, 38, 39, 40, 41, 42, 43, 44, 45, 46, 47, 48, 49, 50, 51, 52, 53, 54, 55, 56, 57, 58, 59, 60, 61, 62, 63, 65, 76, 77, 78, 79, 80, 81, 82, 83, 84, 85, 86, 87] v v') := by
  refine CS.of (by decide) (Nat.le_of_ble_eq_true rfl) ?_
  generalize hQe : (fun (r : Option Value) (v' : Nat → Int32) => ∃ z : Int32, r = some (.int z) ∧ okv v' ∧ mdf [1, 2, 3, 4, 5, 6, 7, 8, 9, 10, 11, 12, 13, 14, 15, 16, 17, 18, 19, 20, 21, 22, 23, 24, 25, 26, 27, 28, 29, 30, 31, 32, 33, 34, 35, 36, 37, 38, 39, 40, 41, 42, 43, 44, 45, 46, 47, 48, 49, 50, 51, 52, 53, 54, 55, 56, 57, 58, 59, 60, 61, 62, 63, 65, 76, 77, 78, 79, 80, 81, 82, 83, 84, 85, 86, 87] v v') = Q
  have hQ : ∀ (z : Int32) (u : Nat → Int32), okv u → mdf [1, 2, 3, 4, 5, 6, 7, 8, 9, 10, 11, 12, 13, 14, 15, 16, 17, 18, 19, 20, 21, 22, 23, 24, 25, 26, 27, 28, 29, 30, 31, 32, 33, 34, 35, 36, 37, 38, 39, 40, 41, 42, 43, 44, 45, 46, 47, 48, 49, 50, 51, 52, 53, 54, 55, 56, 57, 58, 59, 60, 61, 62, 63, 65, 76, 77, 78, 79, 80, 81, 82, 83, 84, 85, 86, 87] v u → Q (some (.int z)) u := by rw [← hQe]; exact fun z u h1 h2  => ⟨z, rfl, h1, h2⟩
  clear hQe
  have hm : mdf [1, 2, 3, 4, 5, 6, 7, 8, 9, 10, 11, 12, 13, 14, 15, 16, 17, 18, 19, 20, 21, 22, 23, 24, 25, 26, 27, 28, 29, 30, 31, 32, 33, 34, 35, 36, 37, 38, 39, 40, 41, 42, 43, 44, 45, 46, 47, 48, 49, 50, 51, 52, 53, 54, 55, 56, 57, 58, 59, 60, 61, 62, 63, 65, 76, 77, 78, 79, 80, 81, 82, 83, 84, 85, 86, 87] v v := mdf.rf
  show ST G mi_PG_finish 0 [(0, .ref 61), (1, .int (nI 3))] [] v 0 0 Q
  refine ST.lift (fun _ _ k => T_iload_n d_PG_finish_0 rfl k) ?_
  refine S_static (as := [.int (nI 3)]) (rest := []) d_PG_finish_1 rfl (jw_PG_isSession.jo (by decide)) lm_PG_133 jt_PG_isSession rfl (Nat.le_of_ble_eq_true rfl) (by decide) (by decide) (c_PG_isSession G v 3 (by omega)) (fun r v' hq => ?_)
  rw [hq.1, hq.2]
  clear hq r v'
  show ST G mi_PG_finish 4 [(0, .ref 61), (1, .int (nI 3))] [.int (nI 1)] v 0 0 _
  refine S_if_neN d_PG_finish_4 rfl (by omega) (fun _ => ?_) (fun c => by first | exact absurd c (by omega) | exact c.elim | exact absurd c (by decide) | exact absurd (by assumption) c | exact absurd c (by assumption))
  refine ST.lift (fun _ _ k => T_aload_n (v := .ref 61) d_PG_finish_9 rfl (Or.inr ⟨_, rfl⟩) k) ?_
  refine S_getfield d_PG_finish_10 fg_PG_34 (w61 _) rfl ?_
  refine ST.lift (fun _ _ k => T_iload_n d_PG_finish_13 rfl k) ?_
  refine S_aaload (C0 := "PasswordGate$Session") d_PG_finish_14 (by decide) (w264 _) rfl (vp_in_nI (by omega) (by omega)) ?_
  refine ST.lift (fun _ _ k => T_astore_n (L' := [(2, .ref 343), (0, .ref 61), (1, .int (nI 3))]) d_PG_finish_15 (by decide) rfl (Or.inr ⟨_, rfl⟩) k) ?_
  refine ST.lift (fun _ _ k => T_aload_n (v := .ref 343) d_PG_finish_16 rfl (Or.inr ⟨_, rfl⟩) k) ?_
  refine ST.lift (fun _ _ k => T_iconst (v := nI 1) d_PG_finish_17 (by decide) k) ?_
  refine S_virtual (as := [.int (nI 1)]) (rest := []) (b := 343) d_PG_finish_18 rfl (jw_Ss_take.jo (by decide)) lm_PG_139 ji_Ss_take js_Ss_take (w343 _) rfl rfl rfl (Nat.le_of_ble_eq_true rfl) (by decide) (by decide) (c_Ss_take_343_1 G v hv) (fun r u1 hq => ?_)
  obtain ⟨z4, hz4, hr, hv2, hm3⟩ := hq
  rw [hr]
  clear hr r
  have hm5 := hm.go hm3 (by intro i hi; simp only [List.mem_cons, List.not_mem_nil, or_false] at hi ⊢ <;> omega)
  show ST G mi_PG_finish 21 [(2, .ref 343), (0, .ref 61), (1, .int (nI 3))] [.int (nI z4)] u1 0 0 _
  refine S_if_eqN d_PG_finish_21 rfl (by omega) (fun c6 => ?_) (fun c6 => ?_)
  · refine ST.lift (fun _ _ k => T_iconst (v := nI 2) d_PG_finish_39 (by decide) k) ?_
    exact S_ret d_PG_finish_40 rfl rfl (by decide) (by decide) (hQ _ _ hv2 hm5)
  · refine ST.lift (fun _ _ k => T_aload_n (v := .ref 343) d_PG_finish_24 rfl (Or.inr ⟨_, rfl⟩) k) ?_
    refine ST.lift (fun _ _ k => T_aload_n (v := .ref 61) d_PG_finish_25 rfl (Or.inr ⟨_, rfl⟩) k) ?_
    refine S_getfield d_PG_finish_26 fg_PG_12 (w61 _) rfl ?_
    refine ST.lift (fun _ _ k => T_aload_n (v := .ref 61) d_PG_finish_29 rfl (Or.inr ⟨_, rfl⟩) k) ?_
    refine S_getfield d_PG_finish_30 fg_PG_21 (w61 _) rfl ?_
    refine S_virtual (as := [.ref 62, .ref 217]) (rest := []) (b := 343) d_PG_finish_33 rfl (jw_Ss_confirmServer.jo (by decide)) lm_PG_146 ji_Ss_confirmServer js_Ss_confirmServer (w343 _) rfl rfl rfl (Nat.le_of_ble_eq_true rfl) (by decide) (by decide) (c_Ss_confirmServer_343 G u1 hv2) (fun r u7 hq => ?_)
    obtain ⟨z10, hr, hv8, hm9⟩ := hq
    rw [hr]
    clear hr r
    have hm11 := hm5.go hm9 (by intro i hi; simp only [List.mem_cons, List.not_mem_nil, or_false] at hi ⊢ <;> omega)
    show ST G mi_PG_finish 36 [(2, .ref 343), (0, .ref 61), (1, .int (nI 3))] [.int z10] u7 0 0 _
    refine ST.lift (fun _ _ k => T_goto (tgt := 40) d_PG_finish_36 rfl k) ?_
    exact S_ret d_PG_finish_40 rfl rfl (by decide) (by decide) (hQ _ _ hv8 hm11)
set_option maxRecDepth 100000 in
set_option maxHeartbeats 4000000 in
theorem c_PG_accept_3 (G : GX) (v : Nat → Int32) (hv : okv v) : CS G mi_PG_accept [.ref 61, .int (nI 3)] v (fun r v' => ∃ z : Int32, r = some (.int z) ∧ okv v' ∧ mdf [1, 2, 3, 4, 5, 6, 7, 8, 9, 10, 11, 12, 13, 14, 15, 16, 17, 18, 19, 20, 21, 22, 23, 24, 25, 26, 27, 28, 29, 30, 31, 32, 33, 34, 35, 36, 37, 38, 39, 40, 41, 42, 43, 44, 45, 46, 47, 48, 49, 50, 51, 52, 53, 54, 55, 56, 57, 58, 59, 60, 61, 62, 63, 65, 76, 77, 78, 79, 80, 81, 82, 83, 84, 85, 86, 87] v v') := by
  refine CS.of (by decide) (Nat.le_of_ble_eq_true rfl) ?_
  generalize hQe : (fun (r : Option Value) (v' : Nat → Int32) => ∃ z : Int32, r = some (.int z) ∧ okv v' ∧ mdf [1, 2, 3, 4, 5, 6, 7, 8, 9, 10, 11, 12, 13, 14, 15, 16, 17, 18, 19, 20, 21, 22, 23, 24, 25, 26, 27, 28, 29, 30, 31, 32, 33, 34, 35, 36, 37, 38, 39, 40, 41, 42, 43, 44, 45, 46, 47, 48, 49, 50, 51, 52, 53, 54, 55, 56, 57, 58, 59, 60, 61, 62, 63, 65, 76, 77, 78, 79, 80, 81, 82, 83, 84, 85, 86, 87] v v') = Q
  have hQ : ∀ (z : Int32) (u : Nat → Int32), okv u → mdf [1, 2, 3, 4, 5, 6, 7, 8, 9, 10, 11, 12, 13, 14, 15, 16, 17, 18, 19, 20, 21, 22, 23, 24, 25, 26, 27, 28, 29, 30, 31, 32, 33, 34, 35, 36, 37, 38, 39, 40, 41, 42, 43, 44, 45, 46, 47, 48, 49, 50, 51, 52, 53, 54, 55, 56, 57, 58, 59, 60, 61, 62, 63, 65, 76, 77, 78, 79, 80, 81, 82, 83, 84, 85, 86, 87] v u → Q (some (.int z)) u := by rw [← hQe]; exact fun z u h1 h2  => ⟨z, rfl, h1, h2⟩
  clear hQe
  have hm : mdf [1, 2, 3, 4, 5, 6, 7, 8, 9, 10, 11, 12, 13, 14, 15, 16, 17, 18, 19, 20, 21, 22, 23, 24, 25, 26, 27, 28, 29, 30, 31, 32, 33, 34, 35, 36, 37, 38, 39, 40, 41, 42, 43, 44, 45, 46, 47, 48, 49, 50, 51, 52, 53, 54, 55, 56, 57, 58, 59, 60, 61, 62, 63, 65, 76, 77, 78, 79, 80, 81, 82, 83, 84, 85, 86, 87] v v := mdf.rf
  show ST G mi_PG_accept 0 [(0, .ref 61), (1, .int (nI 3))] [] v 0 0 Q
  refine ST.lift (fun _ _ k => T_iload_n d_PG_accept_0 rfl k) ?_
  refine S_static (as := [.int (nI 3)]) (rest := []) d_PG_accept_1 rfl (jw_PG_isSession.jo (by decide)) lm_PG_133 jt_PG_isSession rfl (Nat.le_of_ble_eq_true rfl) (by decide) (by decide) (c_PG_isSession G v 3 (by omega)) (fun r v' hq => ?_)
  rw [hq.1, hq.2]
  clear hq r v'
  show ST G mi_PG_accept 4 [(0, .ref 61), (1, .int (nI 3))] [.int (nI 1)] v 0 0 _
  refine S_if_neN d_PG_accept_4 rfl (by omega) (fun _ => ?_) (fun c => by first | exact absurd c (by omega) | exact c.elim | exact absurd c (by decide) | exact absurd (by assumption) c | exact absurd c (by assumption))
  refine ST.lift (fun _ _ k => T_aload_n (v := .ref 61) d_PG_accept_9 rfl (Or.inr ⟨_, rfl⟩) k) ?_
  refine S_getfield d_PG_accept_10 fg_PG_34 (w61 _) rfl ?_
  refine ST.lift (fun _ _ k => T_iload_n d_PG_accept_13 rfl k) ?_
  refine S_aaload (C0 := "PasswordGate$Session") d_PG_accept_14 (by decide) (w264 _) rfl (vp_in_nI (by omega) (by omega)) ?_
  refine ST.lift (fun _ _ k => T_astore_n (L' := [(2, .ref 343), (0, .ref 61), (1, .int (nI 3))]) d_PG_accept_15 (by decide) rfl (Or.inr ⟨_, rfl⟩) k) ?_
  refine ST.lift (fun _ _ k => T_aload_n (v := .ref 343) d_PG_accept_16 rfl (Or.inr ⟨_, rfl⟩) k) ?_
  refine ST.lift (fun _ _ k => T_iconst (v := nI 2) d_PG_accept_17 (by decide) k) ?_
  refine S_virtual (as := [.int (nI 2)]) (rest := []) (b := 343) d_PG_accept_18 rfl (jw_Ss_take.jo (by decide)) lm_PG_139 ji_Ss_take js_Ss_take (w343 _) rfl rfl rfl (Nat.le_of_ble_eq_true rfl) (by decide) (by decide) (c_Ss_take_343_2 G v hv) (fun r u1 hq => ?_)
  obtain ⟨z4, hz4, hr, hv2, hm3⟩ := hq
  rw [hr]
  clear hr r
  have hm5 := hm.go hm3 (by intro i hi; simp only [List.mem_cons, List.not_mem_nil, or_false] at hi ⊢ <;> omega)
  show ST G mi_PG_accept 21 [(2, .ref 343), (0, .ref 61), (1, .int (nI 3))] [.int (nI z4)] u1 0 0 _
  refine S_if_eqN d_PG_accept_21 rfl (by omega) (fun c6 => ?_) (fun c6 => ?_)
  · refine ST.lift (fun _ _ k => T_iconst (v := nI 2) d_PG_accept_31 (by decide) k) ?_
    exact S_ret d_PG_accept_32 rfl rfl (by decide) (by decide) (hQ _ _ hv2 hm5)
  · refine ST.lift (fun _ _ k => T_aload_n (v := .ref 343) d_PG_accept_24 rfl (Or.inr ⟨_, rfl⟩) k) ?_
    refine S_virtual (as := []) (rest := []) (b := 343) d_PG_accept_25 rfl (jw_Ss_confirmClient.jo (by decide)) lm_PG_150 ji_Ss_confirmClient js_Ss_confirmClient (w343 _) rfl rfl rfl (Nat.le_of_ble_eq_true rfl) (by decide) (by decide) (c_Ss_confirmClient_343 G u1 hv2) (fun r u7 hq => ?_)
    obtain ⟨z10, hr, hv8, hm9⟩ := hq
    rw [hr]
    clear hr r
    have hm11 := hm5.go hm9 (by intro i hi; simp only [List.mem_cons, List.not_mem_nil, or_false] at hi ⊢ <;> omega)
    show ST G mi_PG_accept 28 [(2, .ref 343), (0, .ref 61), (1, .int (nI 3))] [.int z10] u7 0 0 _
    refine ST.lift (fun _ _ k => T_goto (tgt := 32) d_PG_accept_28 rfl k) ?_
    exact S_ret d_PG_accept_32 rfl rfl (by decide) (by decide) (hQ _ _ hv8 hm11)
set_option maxRecDepth 100000 in
set_option maxHeartbeats 4000000 in
theorem c_PG_begin_sneg (G : GX) (v : Nat → Int32) (x : Int32) (y : Int32) (hx_s : x < 0) (hv : okv v) : CS G mi_PG_begin [.ref 61, .int x, .int y] v (fun r v' => r = some (.int (-1)) ∧ okv v' ∧ mdf [64] v v' ∧ v' 64 = nI 0) := by
  refine CS.of (by decide) (Nat.le_of_ble_eq_true rfl) ?_
  generalize hQe : (fun (r : Option Value) (v' : Nat → Int32) => r = some (.int (-1)) ∧ okv v' ∧ mdf [64] v v' ∧ v' 64 = nI 0) = Q
  have hQ : ∀ u, okv u → mdf [64] v u → u 64 = nI 0 → Q (some (.int (-1))) u := by rw [← hQe]; exact fun u h1 h2 f0 => ⟨rfl, h1, h2, f0⟩
  clear hQe
  have hm : mdf [64] v v := mdf.rf
  show ST G mi_PG_begin 0 [(0, .ref 61), (1, .int x), (2, .int y)] [] v 0 0 Q
  refine ST.lift (fun _ _ k => T_iload_n d_PG_begin_0 rfl k) ?_
  refine S_static (as := [.int x]) (rest := []) d_PG_begin_1 rfl (jw_PG_isSession.jo (by decide)) lm_PG_133 jt_PG_isSession rfl (Nat.le_of_ble_eq_true rfl) (by decide) (by decide) (c_PG_isSession_neg G v x hx_s) (fun r v' hq => ?_)
  rw [hq.1, hq.2]
  clear hq r v'
  show ST G mi_PG_begin 4 [(0, .ref 61), (1, .int x), (2, .int y)] [.int (nI 0)] v 0 0 _
  refine S_if_eqN d_PG_begin_4 rfl (by omega) (fun _ => ?_) (fun c => by first | exact absurd c (by omega) | exact c.elim | exact absurd c (by decide) | exact absurd (by assumption) c | exact absurd c (by assumption))
  refine ST.lift (fun _ _ k => T_iconst (v := nI 0) d_PG_begin_18 (by decide) k) ?_
  refine ST.lift (fun _ _ k => T_istore_n (L' := [(3, .int (nI 0)), (0, .ref 61), (1, .int x), (2, .int y)]) d_PG_begin_19 (by decide) rfl k) ?_
  refine ST.lift (fun _ _ k => T_iload_n d_PG_begin_20 rfl k) ?_
  refine S_if_eqN d_PG_begin_21 rfl (by omega) (fun _ => ?_) (fun c => by first | exact absurd c (by omega) | exact c.elim | exact absurd c (by decide) | exact absurd (by assumption) c | exact absurd c (by assumption))
  refine ST.lift (fun _ _ k => T_aload_n (v := .ref 61) d_PG_begin_42 rfl (Or.inr ⟨_, rfl⟩) k) ?_
  refine S_getfield d_PG_begin_43 fg_PG_42 (w61 _) rfl ?_
  refine S_virtual (as := []) (rest := []) (b := 369) d_PG_begin_46 rfl (jw_By_clear.jo (by decide)) lm_PG_71 ji_By_clear js_By_clear (w369 _) rfl rfl rfl (Nat.le_of_ble_eq_true rfl) (by decide) (by decide) (c_By_clear G v 369 370 200 64 ⟨w369, a370, by decide, u369_1, by decide, by decide⟩ hv) (fun r v' hq => ?_)
  rw [hq.1, hq.2]
  clear hq r v'
  show ST G mi_PG_begin 49 [(3, .int (nI 0)), (0, .ref 61), (1, .int x), (2, .int y)] [] (va_up v 64 (nI 0)) 0 0 _
  have hv2 := hv.up (j := 64) (c := 200) (k := 0) (by decide) (by omega)
  have hm3 := hm.go (mdf.up (v := v) (j := 64) (x := (nI 0))) (by intro i hi; simp only [List.mem_cons, List.not_mem_nil, or_false] at hi ⊢ <;> omega)
  have e_u1 : (va_up v 64 (nI 0)) 64 = (nI 0) := by simp [va_up]
  generalize va_up v 64 (nI 0) = u1 at hv2 hm3 e_u1 ⊢
  refine ST.lift (fun _ _ k => T_iload_n d_PG_begin_49 rfl k) ?_
  refine S_if_eqN d_PG_begin_50 rfl (by omega) (fun _ => ?_) (fun c => by first | exact absurd c (by omega) | exact c.elim | exact absurd c (by decide) | exact absurd (by assumption) c | exact absurd c (by assumption))
  refine ST.lift (fun _ _ k => T_iconst (v := -1) d_PG_begin_57 (by decide) k) ?_
  exact S_ret d_PG_begin_58 rfl rfl (by decide) (by decide) (hQ _ hv2 hm3 (e_u1.trans (congrArg nI (by omega))))
set_option maxRecDepth 100000 in
set_option maxHeartbeats 4000000 in
theorem c_PG_answer_sneg (G : GX) (v : Nat → Int32) (x : Int32) (hx_s : x < 0) (hv : okv v) : CS G mi_PG_answer [.ref 61, .int x] v (fun r v' => r = some (.int (-1)) ∧ okv v' ∧ mdf [] v v') := by
  refine CS.of (by decide) (Nat.le_of_ble_eq_true rfl) ?_
  generalize hQe : (fun (r : Option Value) (v' : Nat → Int32) => r = some (.int (-1)) ∧ okv v' ∧ mdf [] v v') = Q
  have hQ : ∀ u, okv u → mdf [] v u → Q (some (.int (-1))) u := by rw [← hQe]; exact fun u h1 h2  => ⟨rfl, h1, h2⟩
  clear hQe
  have hm : mdf [] v v := mdf.rf
  show ST G mi_PG_answer 0 [(0, .ref 61), (1, .int x)] [] v 0 0 Q
  refine ST.lift (fun _ _ k => T_iload_n d_PG_answer_0 rfl k) ?_
  refine S_static (as := [.int x]) (rest := []) d_PG_answer_1 rfl (jw_PG_isSession.jo (by decide)) lm_PG_133 jt_PG_isSession rfl (Nat.le_of_ble_eq_true rfl) (by decide) (by decide) (c_PG_isSession_neg G v x hx_s) (fun r v' hq => ?_)
  rw [hq.1, hq.2]
  clear hq r v'
  show ST G mi_PG_answer 4 [(0, .ref 61), (1, .int x)] [.int (nI 0)] v 0 0 _
  refine S_if_neN d_PG_answer_4 rfl (by omega) (fun c => by first | exact absurd c (by omega) | exact c.elim | exact absurd c (by decide) | exact absurd (by assumption) c | exact absurd c (by assumption)) (fun _ => ?_)
  refine ST.lift (fun _ _ k => T_iconst (v := -1) d_PG_answer_7 (by decide) k) ?_
  exact S_ret d_PG_answer_8 rfl rfl (by decide) (by decide) (hQ _ hv hm)
set_option maxRecDepth 100000 in
set_option maxHeartbeats 4000000 in
theorem c_PG_finish_sneg (G : GX) (v : Nat → Int32) (x : Int32) (hx_s : x < 0) (hv : okv v) : CS G mi_PG_finish [.ref 61, .int x] v (fun r v' => r = some (.int (-1)) ∧ okv v' ∧ mdf [] v v') := by
  refine CS.of (by decide) (Nat.le_of_ble_eq_true rfl) ?_
  generalize hQe : (fun (r : Option Value) (v' : Nat → Int32) => r = some (.int (-1)) ∧ okv v' ∧ mdf [] v v') = Q
  have hQ : ∀ u, okv u → mdf [] v u → Q (some (.int (-1))) u := by rw [← hQe]; exact fun u h1 h2  => ⟨rfl, h1, h2⟩
  clear hQe
  have hm : mdf [] v v := mdf.rf
  show ST G mi_PG_finish 0 [(0, .ref 61), (1, .int x)] [] v 0 0 Q
  refine ST.lift (fun _ _ k => T_iload_n d_PG_finish_0 rfl k) ?_
  refine S_static (as := [.int x]) (rest := []) d_PG_finish_1 rfl (jw_PG_isSession.jo (by decide)) lm_PG_133 jt_PG_isSession rfl (Nat.le_of_ble_eq_true rfl) (by decide) (by decide) (c_PG_isSession_neg G v x hx_s) (fun r v' hq => ?_)
  rw [hq.1, hq.2]
  clear hq r v'
  show ST G mi_PG_finish 4 [(0, .ref 61), (1, .int x)] [.int (nI 0)] v 0 0 _
  refine S_if_neN d_PG_finish_4 rfl (by omega) (fun c => by first | exact absurd c (by omega) | exact c.elim | exact absurd c (by decide) | exact absurd (by assumption) c | exact absurd c (by assumption)) (fun _ => ?_)
  refine ST.lift (fun _ _ k => T_iconst (v := -1) d_PG_finish_7 (by decide) k) ?_
  exact S_ret d_PG_finish_8 rfl rfl (by decide) (by decide) (hQ _ hv hm)
set_option maxRecDepth 100000 in
set_option maxHeartbeats 4000000 in
theorem c_PG_accept_sneg (G : GX) (v : Nat → Int32) (x : Int32) (hx_s : x < 0) (hv : okv v) : CS G mi_PG_accept [.ref 61, .int x] v (fun r v' => r = some (.int (-1)) ∧ okv v' ∧ mdf [] v v') := by
  refine CS.of (by decide) (Nat.le_of_ble_eq_true rfl) ?_
  generalize hQe : (fun (r : Option Value) (v' : Nat → Int32) => r = some (.int (-1)) ∧ okv v' ∧ mdf [] v v') = Q
  have hQ : ∀ u, okv u → mdf [] v u → Q (some (.int (-1))) u := by rw [← hQe]; exact fun u h1 h2  => ⟨rfl, h1, h2⟩
  clear hQe
  have hm : mdf [] v v := mdf.rf
  show ST G mi_PG_accept 0 [(0, .ref 61), (1, .int x)] [] v 0 0 Q
  refine ST.lift (fun _ _ k => T_iload_n d_PG_accept_0 rfl k) ?_
  refine S_static (as := [.int x]) (rest := []) d_PG_accept_1 rfl (jw_PG_isSession.jo (by decide)) lm_PG_133 jt_PG_isSession rfl (Nat.le_of_ble_eq_true rfl) (by decide) (by decide) (c_PG_isSession_neg G v x hx_s) (fun r v' hq => ?_)
  rw [hq.1, hq.2]
  clear hq r v'
  show ST G mi_PG_accept 4 [(0, .ref 61), (1, .int x)] [.int (nI 0)] v 0 0 _
  refine S_if_neN d_PG_accept_4 rfl (by omega) (fun c => by first | exact absurd c (by omega) | exact c.elim | exact absurd c (by decide) | exact absurd (by assumption) c | exact absurd c (by assumption)) (fun _ => ?_)
  refine ST.lift (fun _ _ k => T_iconst (v := -1) d_PG_accept_7 (by decide) k) ?_
  exact S_ret d_PG_accept_8 rfl rfl (by decide) (by decide) (hQ _ hv hm)
set_option maxRecDepth 100000 in
set_option maxHeartbeats 4000000 in
theorem c_PG_begin_sbig (G : GX) (v : Nat → Int32) (x : Int32) (y : Int32) (h0_s : ¬ x < 0) (hx_s : nI 4 ≤ x) (hv : okv v) : CS G mi_PG_begin [.ref 61, .int x, .int y] v (fun r v' => r = some (.int (-1)) ∧ okv v' ∧ mdf [64] v v' ∧ v' 64 = nI 0) := by
  refine CS.of (by decide) (Nat.le_of_ble_eq_true rfl) ?_
  generalize hQe : (fun (r : Option Value) (v' : Nat → Int32) => r = some (.int (-1)) ∧ okv v' ∧ mdf [64] v v' ∧ v' 64 = nI 0) = Q
  have hQ : ∀ u, okv u → mdf [64] v u → u 64 = nI 0 → Q (some (.int (-1))) u := by rw [← hQe]; exact fun u h1 h2 f0 => ⟨rfl, h1, h2, f0⟩
  clear hQe
  have hm : mdf [64] v v := mdf.rf
  show ST G mi_PG_begin 0 [(0, .ref 61), (1, .int x), (2, .int y)] [] v 0 0 Q
  refine ST.lift (fun _ _ k => T_iload_n d_PG_begin_0 rfl k) ?_
  refine S_static (as := [.int x]) (rest := []) d_PG_begin_1 rfl (jw_PG_isSession.jo (by decide)) lm_PG_133 jt_PG_isSession rfl (Nat.le_of_ble_eq_true rfl) (by decide) (by decide) (c_PG_isSession_big G v x h0_s hx_s) (fun r v' hq => ?_)
  rw [hq.1, hq.2]
  clear hq r v'
  show ST G mi_PG_begin 4 [(0, .ref 61), (1, .int x), (2, .int y)] [.int (nI 0)] v 0 0 _
  refine S_if_eqN d_PG_begin_4 rfl (by omega) (fun _ => ?_) (fun c => by first | exact absurd c (by omega) | exact c.elim | exact absurd c (by decide) | exact absurd (by assumption) c | exact absurd c (by assumption))
  refine ST.lift (fun _ _ k => T_iconst (v := nI 0) d_PG_begin_18 (by decide) k) ?_
  refine ST.lift (fun _ _ k => T_istore_n (L' := [(3, .int (nI 0)), (0, .ref 61), (1, .int x), (2, .int y)]) d_PG_begin_19 (by decide) rfl k) ?_
  refine ST.lift (fun _ _ k => T_iload_n d_PG_begin_20 rfl k) ?_
  refine S_if_eqN d_PG_begin_21 rfl (by omega) (fun _ => ?_) (fun c => by first | exact absurd c (by omega) | exact c.elim | exact absurd c (by decide) | exact absurd (by assumption) c | exact absurd c (by assumption))
  refine ST.lift (fun _ _ k => T_aload_n (v := .ref 61) d_PG_begin_42 rfl (Or.inr ⟨_, rfl⟩) k) ?_
  refine S_getfield d_PG_begin_43 fg_PG_42 (w61 _) rfl ?_
  refine S_virtual (as := []) (rest := []) (b := 369) d_PG_begin_46 rfl (jw_By_clear.jo (by decide)) lm_PG_71 ji_By_clear js_By_clear (w369 _) rfl rfl rfl (Nat.le_of_ble_eq_true rfl) (by decide) (by decide) (c_By_clear G v 369 370 200 64 ⟨w369, a370, by decide, u369_1, by decide, by decide⟩ hv) (fun r v' hq => ?_)
  rw [hq.1, hq.2]
  clear hq r v'
  show ST G mi_PG_begin 49 [(3, .int (nI 0)), (0, .ref 61), (1, .int x), (2, .int y)] [] (va_up v 64 (nI 0)) 0 0 _
  have hv2 := hv.up (j := 64) (c := 200) (k := 0) (by decide) (by omega)
  have hm3 := hm.go (mdf.up (v := v) (j := 64) (x := (nI 0))) (by intro i hi; simp only [List.mem_cons, List.not_mem_nil, or_false] at hi ⊢ <;> omega)
  have e_u1 : (va_up v 64 (nI 0)) 64 = (nI 0) := by simp [va_up]
  generalize va_up v 64 (nI 0) = u1 at hv2 hm3 e_u1 ⊢
  refine ST.lift (fun _ _ k => T_iload_n d_PG_begin_49 rfl k) ?_
  refine S_if_eqN d_PG_begin_50 rfl (by omega) (fun _ => ?_) (fun c => by first | exact absurd c (by omega) | exact c.elim | exact absurd c (by decide) | exact absurd (by assumption) c | exact absurd c (by assumption))
  refine ST.lift (fun _ _ k => T_iconst (v := -1) d_PG_begin_57 (by decide) k) ?_
  exact S_ret d_PG_begin_58 rfl rfl (by decide) (by decide) (hQ _ hv2 hm3 (e_u1.trans (congrArg nI (by omega))))
set_option maxRecDepth 100000 in
set_option maxHeartbeats 4000000 in
theorem c_PG_answer_sbig (G : GX) (v : Nat → Int32) (x : Int32) (h0_s : ¬ x < 0) (hx_s : nI 4 ≤ x) (hv : okv v) : CS G mi_PG_answer [.ref 61, .int x] v (fun r v' => r = some (.int (-1)) ∧ okv v' ∧ mdf [] v v') := by
  refine CS.of (by decide) (Nat.le_of_ble_eq_true rfl) ?_
  generalize hQe : (fun (r : Option Value) (v' : Nat → Int32) => r = some (.int (-1)) ∧ okv v' ∧ mdf [] v v') = Q
  have hQ : ∀ u, okv u → mdf [] v u → Q (some (.int (-1))) u := by rw [← hQe]; exact fun u h1 h2  => ⟨rfl, h1, h2⟩
  clear hQe
  have hm : mdf [] v v := mdf.rf
  show ST G mi_PG_answer 0 [(0, .ref 61), (1, .int x)] [] v 0 0 Q
  refine ST.lift (fun _ _ k => T_iload_n d_PG_answer_0 rfl k) ?_
  refine S_static (as := [.int x]) (rest := []) d_PG_answer_1 rfl (jw_PG_isSession.jo (by decide)) lm_PG_133 jt_PG_isSession rfl (Nat.le_of_ble_eq_true rfl) (by decide) (by decide) (c_PG_isSession_big G v x h0_s hx_s) (fun r v' hq => ?_)
  rw [hq.1, hq.2]
  clear hq r v'
  show ST G mi_PG_answer 4 [(0, .ref 61), (1, .int x)] [.int (nI 0)] v 0 0 _
  refine S_if_neN d_PG_answer_4 rfl (by omega) (fun c => by first | exact absurd c (by omega) | exact c.elim | exact absurd c (by decide) | exact absurd (by assumption) c | exact absurd c (by assumption)) (fun _ => ?_)
  refine ST.lift (fun _ _ k => T_iconst (v := -1) d_PG_answer_7 (by decide) k) ?_
  exact S_ret d_PG_answer_8 rfl rfl (by decide) (by decide) (hQ _ hv hm)
set_option maxRecDepth 100000 in
set_option maxHeartbeats 4000000 in
theorem c_PG_finish_sbig (G : GX) (v : Nat → Int32) (x : Int32) (h0_s : ¬ x < 0) (hx_s : nI 4 ≤ x) (hv : okv v) : CS G mi_PG_finish [.ref 61, .int x] v (fun r v' => r = some (.int (-1)) ∧ okv v' ∧ mdf [] v v') := by
  refine CS.of (by decide) (Nat.le_of_ble_eq_true rfl) ?_
  generalize hQe : (fun (r : Option Value) (v' : Nat → Int32) => r = some (.int (-1)) ∧ okv v' ∧ mdf [] v v') = Q
  have hQ : ∀ u, okv u → mdf [] v u → Q (some (.int (-1))) u := by rw [← hQe]; exact fun u h1 h2  => ⟨rfl, h1, h2⟩
  clear hQe
  have hm : mdf [] v v := mdf.rf
  show ST G mi_PG_finish 0 [(0, .ref 61), (1, .int x)] [] v 0 0 Q
  refine ST.lift (fun _ _ k => T_iload_n d_PG_finish_0 rfl k) ?_
  refine S_static (as := [.int x]) (rest := []) d_PG_finish_1 rfl (jw_PG_isSession.jo (by decide)) lm_PG_133 jt_PG_isSession rfl (Nat.le_of_ble_eq_true rfl) (by decide) (by decide) (c_PG_isSession_big G v x h0_s hx_s) (fun r v' hq => ?_)
  rw [hq.1, hq.2]
  clear hq r v'
  show ST G mi_PG_finish 4 [(0, .ref 61), (1, .int x)] [.int (nI 0)] v 0 0 _
  refine S_if_neN d_PG_finish_4 rfl (by omega) (fun c => by first | exact absurd c (by omega) | exact c.elim | exact absurd c (by decide) | exact absurd (by assumption) c | exact absurd c (by assumption)) (fun _ => ?_)
  refine ST.lift (fun _ _ k => T_iconst (v := -1) d_PG_finish_7 (by decide) k) ?_
  exact S_ret d_PG_finish_8 rfl rfl (by decide) (by decide) (hQ _ hv hm)
set_option maxRecDepth 100000 in
set_option maxHeartbeats 4000000 in
theorem c_PG_accept_sbig (G : GX) (v : Nat → Int32) (x : Int32) (h0_s : ¬ x < 0) (hx_s : nI 4 ≤ x) (hv : okv v) : CS G mi_PG_accept [.ref 61, .int x] v (fun r v' => r = some (.int (-1)) ∧ okv v' ∧ mdf [] v v') := by
  refine CS.of (by decide) (Nat.le_of_ble_eq_true rfl) ?_
  generalize hQe : (fun (r : Option Value) (v' : Nat → Int32) => r = some (.int (-1)) ∧ okv v' ∧ mdf [] v v') = Q
  have hQ : ∀ u, okv u → mdf [] v u → Q (some (.int (-1))) u := by rw [← hQe]; exact fun u h1 h2  => ⟨rfl, h1, h2⟩
  clear hQe
  have hm : mdf [] v v := mdf.rf
  show ST G mi_PG_accept 0 [(0, .ref 61), (1, .int x)] [] v 0 0 Q
  refine ST.lift (fun _ _ k => T_iload_n d_PG_accept_0 rfl k) ?_
  refine S_static (as := [.int x]) (rest := []) d_PG_accept_1 rfl (jw_PG_isSession.jo (by decide)) lm_PG_133 jt_PG_isSession rfl (Nat.le_of_ble_eq_true rfl) (by decide) (by decide) (c_PG_isSession_big G v x h0_s hx_s) (fun r v' hq => ?_)
  rw [hq.1, hq.2]
  clear hq r v'
  show ST G mi_PG_accept 4 [(0, .ref 61), (1, .int x)] [.int (nI 0)] v 0 0 _
  refine S_if_neN d_PG_accept_4 rfl (by omega) (fun c => by first | exact absurd c (by omega) | exact c.elim | exact absurd c (by decide) | exact absurd (by assumption) c | exact absurd c (by assumption)) (fun _ => ?_)
  refine ST.lift (fun _ _ k => T_iconst (v := -1) d_PG_accept_7 (by decide) k) ?_
  exact S_ret d_PG_accept_8 rfl rfl (by decide) (by decide) (hQ _ hv hm)

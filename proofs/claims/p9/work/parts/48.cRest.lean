set_option maxRecDepth 100000 in
set_option maxHeartbeats 4000000 in
theorem c_By_has_in (G : GX) (v : Nat → Int32) (b bd bc bj : Nat) (y_b : isBy b bd bc bj) (i : Nat) (b_i : i < 2147483648) (k : Nat) (ebj : v bj = nI k) (hk : i < k ∧ k ≤ bc) (hv : okv v) : CS G mi_By_has [.ref b, .int (nI i)] v (fun r v' => r = some (.int (nI 1)) ∧ okv v' ∧ mdf [] v v' ∧ v' bj = nI k) := by
  refine CS.of (by decide) (Nat.le_of_ble_eq_true rfl) ?_
  generalize hQe : (fun (r : Option Value) (v' : Nat → Int32) => r = some (.int (nI 1)) ∧ okv v' ∧ mdf [] v v' ∧ v' bj = nI k) = Q
  have hQ : ∀ u, okv u → mdf [] v u → u bj = nI k → Q (some (.int (nI 1))) u := by rw [← hQe]; exact fun u h1 h2 f0 => ⟨rfl, h1, h2, f0⟩
  clear hQe
  have hm : mdf [] v v := mdf.rf
  have l_b := y_b.2.2.2.2.2
  show ST G mi_By_has 0 [(0, .ref b), (1, .int (nI i))] [] v 0 0 Q
  refine ST.lift (fun _ _ k => T_iload_n d_By_has_0 rfl k) ?_
  refine S_if_ltN d_By_has_1 rfl (by omega) (fun c => by first | exact absurd c (by omega) | exact c.elim | exact absurd c (by decide) | exact absurd (by assumption) c | exact absurd c (by assumption)) (fun _ => ?_)
  refine ST.lift (fun _ _ k => T_iload_n d_By_has_4 rfl k) ?_
  refine ST.lift (fun _ _ k => T_aload_n (v := .ref b) d_By_has_5 rfl (Or.inr ⟨_, rfl⟩) k) ?_
  refine S_getfield d_By_has_6 fg_By_13 (y_b.1 _) rfl ?_
  refine S_topi (y := nI k) (ebj) ?_
  refine S_icmp_geN d_By_has_9 rfl (by omega) (by omega) (fun c => by first | exact absurd c (by omega) | exact c.elim | exact absurd c (by decide) | exact absurd (by assumption) c | exact absurd c (by assumption)) (fun _ => ?_)
  refine ST.lift (fun _ _ k => T_iconst (v := nI 1) d_By_has_12 (by decide) k) ?_
  refine ST.lift (fun _ _ k => T_goto (tgt := 17) d_By_has_13 rfl k) ?_
  refine S_topi (y := nI 1) (congrArg nI (by omega)) ?_
  exact S_ret d_By_has_17 rfl (nar_z (by omega)) (by decide) (by decide) (hQ _ hv hm (ebj.trans (congrArg nI (by omega))))
set_option maxRecDepth 100000 in
set_option maxHeartbeats 4000000 in
theorem c_By_has_out (G : GX) (v : Nat → Int32) (b bd bc bj : Nat) (y_b : isBy b bd bc bj) (i : Nat) (b_i : i < 2147483648) (k : Nat) (ebj : v bj = nI k) (hk : k ≤ i ∧ k ≤ bc) (hv : okv v) : CS G mi_By_has [.ref b, .int (nI i)] v (fun r v' => r = some (.int (nI 0)) ∧ okv v' ∧ mdf [] v v' ∧ v' bj = nI k) := by
  refine CS.of (by decide) (Nat.le_of_ble_eq_true rfl) ?_
  generalize hQe : (fun (r : Option Value) (v' : Nat → Int32) => r = some (.int (nI 0)) ∧ okv v' ∧ mdf [] v v' ∧ v' bj = nI k) = Q
  have hQ : ∀ u, okv u → mdf [] v u → u bj = nI k → Q (some (.int (nI 0))) u := by rw [← hQe]; exact fun u h1 h2 f0 => ⟨rfl, h1, h2, f0⟩
  clear hQe
  have hm : mdf [] v v := mdf.rf
  have l_b := y_b.2.2.2.2.2
  show ST G mi_By_has 0 [(0, .ref b), (1, .int (nI i))] [] v 0 0 Q
  refine ST.lift (fun _ _ k => T_iload_n d_By_has_0 rfl k) ?_
  refine S_if_ltN d_By_has_1 rfl (by omega) (fun c => by first | exact absurd c (by omega) | exact c.elim | exact absurd c (by decide) | exact absurd (by assumption) c | exact absurd c (by assumption)) (fun _ => ?_)
  refine ST.lift (fun _ _ k => T_iload_n d_By_has_4 rfl k) ?_
  refine ST.lift (fun _ _ k => T_aload_n (v := .ref b) d_By_has_5 rfl (Or.inr ⟨_, rfl⟩) k) ?_
  refine S_getfield d_By_has_6 fg_By_13 (y_b.1 _) rfl ?_
  refine S_topi (y := nI k) (ebj) ?_
  refine S_icmp_geN d_By_has_9 rfl (by omega) (by omega) (fun _ => ?_) (fun c => by first | exact absurd c (by omega) | exact c.elim | exact absurd c (by decide) | exact absurd (by assumption) c | exact absurd c (by assumption))
  refine ST.lift (fun _ _ k => T_iconst (v := nI 0) d_By_has_16 (by decide) k) ?_
  refine S_topi (y := nI 0) (congrArg nI (by omega)) ?_
  exact S_ret d_By_has_17 rfl (nar_z (by omega)) (by decide) (by decide) (hQ _ hv hm (ebj.trans (congrArg nI (by omega))))
set_option maxRecDepth 100000 in
set_option maxHeartbeats 4000000 in
theorem c_PG_isOnWire_0_1 (G : GX) (v : Nat → Int32) (i : Nat) (b_i : i < 2147483648) (hv : okv v) : CS G mi_PG_isOnWire [.ref 61, .int (nI 0), .int (nI 1), .int (nI i)] v (fun r v' => ∃ z : Nat, z ≤ 1 ∧ (z = 1 → i < 96) ∧ r = some (.int (nI z)) ∧ okv v' ∧ mdf [] v v') := by
  refine CS.of (by decide) (Nat.le_of_ble_eq_true rfl) ?_
  generalize hQe : (fun (r : Option Value) (v' : Nat → Int32) => ∃ z : Nat, z ≤ 1 ∧ (z = 1 → i < 96) ∧ r = some (.int (nI z)) ∧ okv v' ∧ mdf [] v v') = Q
  have hQ : ∀ (z : Nat) (u : Nat → Int32), z ≤ 1 → (z = 1 → i < 96) → okv u → mdf [] v u → Q (some (.int (nI z))) u := by rw [← hQe]; exact fun z u hz hi h1 h2  => ⟨z, hz, hi, rfl, h1, h2⟩
  clear hQe
  have hm : mdf [] v v := mdf.rf
  show ST G mi_PG_isOnWire 0 [(0, .ref 61), (1, .int (nI 0)), (2, .int (nI 1)), (3, .int (nI i))] [] v 0 0 Q
  refine ST.lift (fun _ _ k => T_iload_n d_PG_isOnWire_0 rfl k) ?_
  refine S_static (as := [.int (nI 0)]) (rest := []) d_PG_isOnWire_1 rfl (jw_PG_isSession.jo (by decide)) lm_PG_133 jt_PG_isSession rfl (Nat.le_of_ble_eq_true rfl) (by decide) (by decide) (c_PG_isSession G v 0 (by omega)) (fun r v' hq => ?_)
  rw [hq.1, hq.2]
  clear hq r v'
  show ST G mi_PG_isOnWire 4 [(0, .ref 61), (1, .int (nI 0)), (2, .int (nI 1)), (3, .int (nI i))] [.int (nI 1)] v 0 0 _
  refine S_if_eqN d_PG_isOnWire_4 rfl (by omega) (fun c => by first | exact absurd c (by omega) | exact c.elim | exact absurd c (by decide) | exact absurd (by assumption) c | exact absurd c (by assumption)) (fun _ => ?_)
  refine ST.lift (fun _ _ k => T_iload_n d_PG_isOnWire_7 rfl k) ?_
  refine ST.lift (fun _ _ k => T_iconst (v := nI 1) d_PG_isOnWire_8 (by decide) k) ?_
  refine S_icmp_ltN d_PG_isOnWire_9 rfl (by omega) (by omega) (fun c => by first | exact absurd c (by omega) | exact c.elim | exact absurd c (by decide) | exact absurd (by assumption) c | exact absurd c (by assumption)) (fun _ => ?_)
  refine ST.lift (fun _ _ k => T_iload_n d_PG_isOnWire_12 rfl k) ?_
  refine ST.lift (fun _ _ k => T_iconst (v := nI 3) d_PG_isOnWire_13 (by decide) k) ?_
  refine S_icmp_gtN d_PG_isOnWire_14 rfl (by omega) (by omega) (fun c => by first | exact absurd c (by omega) | exact c.elim | exact absurd c (by decide) | exact absurd (by assumption) c | exact absurd c (by assumption)) (fun _ => ?_)
  refine ST.lift (fun _ _ k => T_aload_n (v := .ref 61) d_PG_isOnWire_17 rfl (Or.inr ⟨_, rfl⟩) k) ?_
  refine S_getfield d_PG_isOnWire_18 fg_PG_34 (w61 _) rfl ?_
  refine ST.lift (fun _ _ k => T_iload_n d_PG_isOnWire_21 rfl k) ?_
  refine S_aaload (C0 := "PasswordGate$Session") d_PG_isOnWire_22 (by decide) (w264 _) rfl (vp_in_nI (by omega) (by omega)) ?_
  refine S_getfield d_PG_isOnWire_23 fg_PG_158 (w265 _) rfl ?_
  refine ST.lift (fun _ _ k => T_iload_n d_PG_isOnWire_26 rfl k) ?_
  refine ST.lift (fun _ _ k => T_iconst (v := nI 1) d_PG_isOnWire_27 (by decide) k) ?_
  refine S_isubN d_PG_isOnWire_28 (by omega) ?_
  refine S_topi (y := nI 0) (by decide) ?_
  refine S_aaload (C0 := "PasswordGate$Bytes") d_PG_isOnWire_29 (by decide) (w266 _) rfl (vp_in_nI (by omega) (by omega)) ?_
  refine ST.lift (fun _ _ k => T_iload_n d_PG_isOnWire_30 rfl k) ?_
  obtain ⟨k1, hk1, ek1⟩ := hv.get (j := 28) (c := 96) (by decide)
  refine S_virtual (as := [.int (nI i)]) (rest := []) (b := 279) d_PG_isOnWire_31 rfl (jw_By_has.jo (by decide)) lm_PG_119 ji_By_has js_By_has (w279 _) rfl rfl rfl (Nat.le_of_ble_eq_true rfl) (by decide) (by decide) (c_By_has_n G v 279 280 96 28 ⟨w279, a280, by decide, u279_1, by decide, by decide⟩ i (by omega) k1 ek1 (by omega) hv) (fun r u2 hq => ?_)
  obtain ⟨z5, hz5, hiz5, hr, hv3, hm4, fe0_u2⟩ := hq
  rw [hr]
  clear hr r
  have hm6 := hm.go hm4 (by intro i hi; simp only [List.mem_cons, List.not_mem_nil, or_false] at hi ⊢ <;> omega)
  have e7 : u2 28 = nI k1 := (hm4 28 (by decide)).trans ek1
  show ST G mi_PG_isOnWire 34 [(0, .ref 61), (1, .int (nI 0)), (2, .int (nI 1)), (3, .int (nI i))] [.int (nI z5)] u2 0 0 _
  refine S_if_eqN d_PG_isOnWire_34 rfl (by omega) (fun c8 => ?_) (fun c8 => ?_)
  · refine ST.lift (fun _ _ k => T_iconst (v := nI 0) d_PG_isOnWire_41 (by decide) k) ?_
    exact S_ret d_PG_isOnWire_42 rfl (nar_z (by omega)) (by decide) (by decide) (hQ 0 _ (by omega) (by omega) hv3 hm6)
  · refine ST.lift (fun _ _ k => T_iconst (v := nI 1) d_PG_isOnWire_37 (by decide) k) ?_
    refine ST.lift (fun _ _ k => T_goto (tgt := 42) d_PG_isOnWire_38 rfl k) ?_
    exact S_ret d_PG_isOnWire_42 rfl (nar_z (by omega)) (by decide) (by decide) (hQ 1 _ (by omega) (by omega) hv3 hm6)
set_option maxRecDepth 100000 in
set_option maxHeartbeats 4000000 in
theorem c_PG_tamper_0_1 (G : GX) (v : Nat → Int32) (i : Nat) (b_i : i < 2147483648) (mask : Int32) (hv : okv v) : CS G mi_PG_tamper [.ref 61, .int (nI 0), .int (nI 1), .int (nI i), .int mask] v (fun r v' => ∃ z : Nat, z ≤ 1 ∧ r = some (.int (nI z)) ∧ okv v' ∧ mdf [] v v') := by
  refine CS.of (by decide) (Nat.le_of_ble_eq_true rfl) ?_
  generalize hQe : (fun (r : Option Value) (v' : Nat → Int32) => ∃ z : Nat, z ≤ 1 ∧ r = some (.int (nI z)) ∧ okv v' ∧ mdf [] v v') = Q
  have hQ : ∀ (z : Nat) (u : Nat → Int32), z ≤ 1 → okv u → mdf [] v u → Q (some (.int (nI z))) u := by rw [← hQe]; exact fun z u hz h1 h2  => ⟨z, hz, rfl, h1, h2⟩
  clear hQe
  have hm : mdf [] v v := mdf.rf
  show ST G mi_PG_tamper 0 [(0, .ref 61), (1, .int (nI 0)), (2, .int (nI 1)), (3, .int (nI i)), (4, .int mask)] [] v 0 0 Q
  refine ST.lift (fun _ _ k => T_aload_n (v := .ref 61) d_PG_tamper_0 rfl (Or.inr ⟨_, rfl⟩) k) ?_
  refine ST.lift (fun _ _ k => T_iload_n d_PG_tamper_1 rfl k) ?_
  refine ST.lift (fun _ _ k => T_iload_n d_PG_tamper_2 rfl k) ?_
  refine ST.lift (fun _ _ k => T_iload_n d_PG_tamper_3 rfl k) ?_
  refine S_virtual (as := [.int (nI 0), .int (nI 1), .int (nI i)]) (rest := []) (b := 61) d_PG_tamper_4 rfl (jw_PG_isOnWire.jo (by decide)) lm_PG_154 ji_PG_isOnWire js_PG_isOnWire (w61 _) rfl rfl rfl (Nat.le_of_ble_eq_true rfl) (by decide) (by decide) (c_PG_isOnWire_0_1 G v i (by omega) hv) (fun r u1 hq => ?_)
  obtain ⟨z4, hz4, hiz4, hr, hv2, hm3⟩ := hq
  rw [hr]
  clear hr r
  have hm5 := hm.go hm3 (by intro i hi; simp only [List.mem_cons, List.not_mem_nil, or_false] at hi ⊢ <;> omega)
  show ST G mi_PG_tamper 7 [(0, .ref 61), (1, .int (nI 0)), (2, .int (nI 1)), (3, .int (nI i)), (4, .int mask)] [.int (nI z4)] u1 0 0 _
  refine S_if_neN d_PG_tamper_7 rfl (by omega) (fun c6 => ?_) (fun c6 => ?_)
  · refine ST.lift (fun _ _ k => T_aload_n (v := .ref 61) d_PG_tamper_12 rfl (Or.inr ⟨_, rfl⟩) k) ?_
    refine S_getfield d_PG_tamper_13 fg_PG_34 (w61 _) rfl ?_
    refine ST.lift (fun _ _ k => T_iload_n d_PG_tamper_16 rfl k) ?_
    refine S_aaload (C0 := "PasswordGate$Session") d_PG_tamper_17 (by decide) (w264 _) rfl (vp_in_nI (by omega) (by omega)) ?_
    refine S_getfield d_PG_tamper_18 fg_PG_158 (w265 _) rfl ?_
    refine ST.lift (fun _ _ k => T_iload_n d_PG_tamper_21 rfl k) ?_
    refine ST.lift (fun _ _ k => T_iconst (v := nI 1) d_PG_tamper_22 (by decide) k) ?_
    refine S_isubN d_PG_tamper_23 (by omega) ?_
    refine S_topi (y := nI 0) (by decide) ?_
    refine S_aaload (C0 := "PasswordGate$Bytes") d_PG_tamper_24 (by decide) (w266 _) rfl (vp_in_nI (by omega) (by omega)) ?_
    refine S_getfield d_PG_tamper_25 fg_PG_93 (w279 _) rfl ?_
    refine ST.lift (fun _ _ k => T_iload_n d_PG_tamper_28 rfl k) ?_
    refine ST.lift (fun _ _ k => T_dup2 d_PG_tamper_29 rfl rfl k) ?_
    refine S_baload d_PG_tamper_30 a280 (vp_in_nI (by omega) (by omega)) (fun z7 hz7 => ?_)
    refine ST.lift (fun _ _ k => T_iload d_PG_tamper_31 rfl k) ?_
    refine ST.lift (fun _ _ k => T_i2b d_PG_tamper_33 k) (S_anyi fun z8 => ?_)
    refine ST.lift (fun _ _ k => T_ixor d_PG_tamper_34 k) (S_anyi fun z9 => ?_)
    refine ST.lift (fun _ _ k => T_i2b d_PG_tamper_35 k) (S_anyi fun z10 => ?_)
    refine S_bastore d_PG_tamper_36 (by decide) a280 (vp_in_nI (by omega) (by omega)) ?_
    refine ST.lift (fun _ _ k => T_iconst (v := nI 1) d_PG_tamper_37 (by decide) k) ?_
    exact S_ret d_PG_tamper_38 rfl (nar_z (by omega)) (by decide) (by decide) (hQ 1 _ (by omega) hv2 hm5)
  · refine ST.lift (fun _ _ k => T_iconst (v := nI 0) d_PG_tamper_10 (by decide) k) ?_
    exact S_ret d_PG_tamper_11 rfl (nar_z (by omega)) (by decide) (by decide) (hQ 0 _ (by omega) hv2 hm5)
set_option maxRecDepth 100000 in
set_option maxHeartbeats 4000000 in
theorem c_PG_isOnWire_0_2 (G : GX) (v : Nat → Int32) (i : Nat) (b_i : i < 2147483648) (hv : okv v) : CS G mi_PG_isOnWire [.ref 61, .int (nI 0), .int (nI 2), .int (nI i)] v (fun r v' => ∃ z : Nat, z ≤ 1 ∧ (z = 1 → i < 320) ∧ r = some (.int (nI z)) ∧ okv v' ∧ mdf [] v v') := by
  refine CS.of (by decide) (Nat.le_of_ble_eq_true rfl) ?_
  generalize hQe : (fun (r : Option Value) (v' : Nat → Int32) => ∃ z : Nat, z ≤ 1 ∧ (z = 1 → i < 320) ∧ r = some (.int (nI z)) ∧ okv v' ∧ mdf [] v v') = Q
  have hQ : ∀ (z : Nat) (u : Nat → Int32), z ≤ 1 → (z = 1 → i < 320) → okv u → mdf [] v u → Q (some (.int (nI z))) u := by rw [← hQe]; exact fun z u hz hi h1 h2  => ⟨z, hz, hi, rfl, h1, h2⟩
  clear hQe
  have hm : mdf [] v v := mdf.rf
  show ST G mi_PG_isOnWire 0 [(0, .ref 61), (1, .int (nI 0)), (2, .int (nI 2)), (3, .int (nI i))] [] v 0 0 Q
  refine ST.lift (fun _ _ k => T_iload_n d_PG_isOnWire_0 rfl k) ?_
  refine S_static (as := [.int (nI 0)]) (rest := []) d_PG_isOnWire_1 rfl (jw_PG_isSession.jo (by decide)) lm_PG_133 jt_PG_isSession rfl (Nat.le_of_ble_eq_true rfl) (by decide) (by decide) (c_PG_isSession G v 0 (by omega)) (fun r v' hq => ?_)
  rw [hq.1, hq.2]
  clear hq r v'
  show ST G mi_PG_isOnWire 4 [(0, .ref 61), (1, .int (nI 0)), (2, .int (nI 2)), (3, .int (nI i))] [.int (nI 1)] v 0 0 _
  refine S_if_eqN d_PG_isOnWire_4 rfl (by omega) (fun c => by first | exact absurd c (by omega) | exact c.elim | exact absurd c (by decide) | exact absurd (by assumption) c | exact absurd c (by assumption)) (fun _ => ?_)
  refine ST.lift (fun _ _ k => T_iload_n d_PG_isOnWire_7 rfl k) ?_
  refine ST.lift (fun _ _ k => T_iconst (v := nI 1) d_PG_isOnWire_8 (by decide) k) ?_
  refine S_icmp_ltN d_PG_isOnWire_9 rfl (by omega) (by omega) (fun c => by first | exact absurd c (by omega) | exact c.elim | exact absurd c (by decide) | exact absurd (by assumption) c | exact absurd c (by assumption)) (fun _ => ?_)
  refine ST.lift (fun _ _ k => T_iload_n d_PG_isOnWire_12 rfl k) ?_
  refine ST.lift (fun _ _ k => T_iconst (v := nI 3) d_PG_isOnWire_13 (by decide) k) ?_
  refine S_icmp_gtN d_PG_isOnWire_14 rfl (by omega) (by omega) (fun c => by first | exact absurd c (by omega) | exact c.elim | exact absurd c (by decide) | exact absurd (by assumption) c | exact absurd c (by assumption)) (fun _ => ?_)
  refine ST.lift (fun _ _ k => T_aload_n (v := .ref 61) d_PG_isOnWire_17 rfl (Or.inr ⟨_, rfl⟩) k) ?_
  refine S_getfield d_PG_isOnWire_18 fg_PG_34 (w61 _) rfl ?_
  refine ST.lift (fun _ _ k => T_iload_n d_PG_isOnWire_21 rfl k) ?_
  refine S_aaload (C0 := "PasswordGate$Session") d_PG_isOnWire_22 (by decide) (w264 _) rfl (vp_in_nI (by omega) (by omega)) ?_
  refine S_getfield d_PG_isOnWire_23 fg_PG_158 (w265 _) rfl ?_
  refine ST.lift (fun _ _ k => T_iload_n d_PG_isOnWire_26 rfl k) ?_
  refine ST.lift (fun _ _ k => T_iconst (v := nI 1) d_PG_isOnWire_27 (by decide) k) ?_
  refine S_isubN d_PG_isOnWire_28 (by omega) ?_
  refine S_topi (y := nI 1) (by decide) ?_
  refine S_aaload (C0 := "PasswordGate$Bytes") d_PG_isOnWire_29 (by decide) (w266 _) rfl (vp_in_nI (by omega) (by omega)) ?_
  refine ST.lift (fun _ _ k => T_iload_n d_PG_isOnWire_30 rfl k) ?_
  obtain ⟨k1, hk1, ek1⟩ := hv.get (j := 29) (c := 320) (by decide)
  refine S_virtual (as := [.int (nI i)]) (rest := []) (b := 281) d_PG_isOnWire_31 rfl (jw_By_has.jo (by decide)) lm_PG_119 ji_By_has js_By_has (w281 _) rfl rfl rfl (Nat.le_of_ble_eq_true rfl) (by decide) (by decide) (c_By_has_n G v 281 282 320 29 ⟨w281, a282, by decide, u281_1, by decide, by decide⟩ i (by omega) k1 ek1 (by omega) hv) (fun r u2 hq => ?_)
  obtain ⟨z5, hz5, hiz5, hr, hv3, hm4, fe0_u2⟩ := hq
  rw [hr]
  clear hr r
  have hm6 := hm.go hm4 (by intro i hi; simp only [List.mem_cons, List.not_mem_nil, or_false] at hi ⊢ <;> omega)
  have e7 : u2 29 = nI k1 := (hm4 29 (by decide)).trans ek1
  show ST G mi_PG_isOnWire 34 [(0, .ref 61), (1, .int (nI 0)), (2, .int (nI 2)), (3, .int (nI i))] [.int (nI z5)] u2 0 0 _
  refine S_if_eqN d_PG_isOnWire_34 rfl (by omega) (fun c8 => ?_) (fun c8 => ?_)
  · refine ST.lift (fun _ _ k => T_iconst (v := nI 0) d_PG_isOnWire_41 (by decide) k) ?_
    exact S_ret d_PG_isOnWire_42 rfl (nar_z (by omega)) (by decide) (by decide) (hQ 0 _ (by omega) (by omega) hv3 hm6)
  · refine ST.lift (fun _ _ k => T_iconst (v := nI 1) d_PG_isOnWire_37 (by decide) k) ?_
    refine ST.lift (fun _ _ k => T_goto (tgt := 42) d_PG_isOnWire_38 rfl k) ?_
    exact S_ret d_PG_isOnWire_42 rfl (nar_z (by omega)) (by decide) (by decide) (hQ 1 _ (by omega) (by omega) hv3 hm6)
set_option maxRecDepth 100000 in
set_option maxHeartbeats 4000000 in
theorem c_PG_tamper_0_2 (G : GX) (v : Nat → Int32) (i : Nat) (b_i : i < 2147483648) (mask : Int32) (hv : okv v) : CS G mi_PG_tamper [.ref 61, .int (nI 0), .int (nI 2), .int (nI i), .int mask] v (fun r v' => ∃ z : Nat, z ≤ 1 ∧ r = some (.int (nI z)) ∧ okv v' ∧ mdf [] v v') := by
  refine CS.of (by decide) (Nat.le_of_ble_eq_true rfl) ?_
  generalize hQe : (fun (r : Option Value) (v' : Nat → Int32) => ∃ z : Nat, z ≤ 1 ∧ r = some (.int (nI z)) ∧ okv v' ∧ mdf [] v v') = Q
  have hQ : ∀ (z : Nat) (u : Nat → Int32), z ≤ 1 → okv u → mdf [] v u → Q (some (.int (nI z))) u := by rw [← hQe]; exact fun z u hz h1 h2  => ⟨z, hz, rfl, h1, h2⟩
  clear hQe
  have hm : mdf [] v v := mdf.rf
  show ST G mi_PG_tamper 0 [(0, .ref 61), (1, .int (nI 0)), (2, .int (nI 2)), (3, .int (nI i)), (4, .int mask)] [] v 0 0 Q
  refine ST.lift (fun _ _ k => T_aload_n (v := .ref 61) d_PG_tamper_0 rfl (Or.inr ⟨_, rfl⟩) k) ?_
  refine ST.lift (fun _ _ k => T_iload_n d_PG_tamper_1 rfl k) ?_
  refine ST.lift (fun _ _ k => T_iload_n d_PG_tamper_2 rfl k) ?_
  refine ST.lift (fun _ _ k => T_iload_n d_PG_tamper_3 rfl k) ?_
  refine S_virtual (as := [.int (nI 0), .int (nI 2), .int (nI i)]) (rest := []) (b := 61) d_PG_tamper_4 rfl (jw_PG_isOnWire.jo (by decide)) lm_PG_154 ji_PG_isOnWire js_PG_isOnWire (w61 _) rfl rfl rfl (Nat.le_of_ble_eq_true rfl) (by decide) (by decide) (c_PG_isOnWire_0_2 G v i (by omega) hv) (fun r u1 hq => ?_)
  obtain ⟨z4, hz4, hiz4, hr, hv2, hm3⟩ := hq
  rw [hr]
  clear hr r
  have hm5 := hm.go hm3 (by intro i hi; simp only [List.mem_cons, List.not_mem_nil, or_false] at hi ⊢ <;> omega)
  show ST G mi_PG_tamper 7 [(0, .ref 61), (1, .int (nI 0)), (2, .int (nI 2)), (3, .int (nI i)), (4, .int mask)] [.int (nI z4)] u1 0 0 _
  refine S_if_neN d_PG_tamper_7 rfl (by omega) (fun c6 => ?_) (fun c6 => ?_)
  · refine ST.lift (fun _ _ k => T_aload_n (v := .ref 61) d_PG_tamper_12 rfl (Or.inr ⟨_, rfl⟩) k) ?_
    refine S_getfield d_PG_tamper_13 fg_PG_34 (w61 _) rfl ?_
    refine ST.lift (fun _ _ k => T_iload_n d_PG_tamper_16 rfl k) ?_
    refine S_aaload (C0 := "PasswordGate$Session") d_PG_tamper_17 (by decide) (w264 _) rfl (vp_in_nI (by omega) (by omega)) ?_
    refine S_getfield d_PG_tamper_18 fg_PG_158 (w265 _) rfl ?_
    refine ST.lift (fun _ _ k => T_iload_n d_PG_tamper_21 rfl k) ?_
    refine ST.lift (fun _ _ k => T_iconst (v := nI 1) d_PG_tamper_22 (by decide) k) ?_
    refine S_isubN d_PG_tamper_23 (by omega) ?_
    refine S_topi (y := nI 1) (by decide) ?_
    refine S_aaload (C0 := "PasswordGate$Bytes") d_PG_tamper_24 (by decide) (w266 _) rfl (vp_in_nI (by omega) (by omega)) ?_
    refine S_getfield d_PG_tamper_25 fg_PG_93 (w281 _) rfl ?_
    refine ST.lift (fun _ _ k => T_iload_n d_PG_tamper_28 rfl k) ?_
    refine ST.lift (fun _ _ k => T_dup2 d_PG_tamper_29 rfl rfl k) ?_
    refine S_baload d_PG_tamper_30 a282 (vp_in_nI (by omega) (by omega)) (fun z7 hz7 => ?_)
    refine ST.lift (fun _ _ k => T_iload d_PG_tamper_31 rfl k) ?_
    refine ST.lift (fun _ _ k => T_i2b d_PG_tamper_33 k) (S_anyi fun z8 => ?_)
    refine ST.lift (fun _ _ k => T_ixor d_PG_tamper_34 k) (S_anyi fun z9 => ?_)
    refine ST.lift (fun _ _ k => T_i2b d_PG_tamper_35 k) (S_anyi fun z10 => ?_)
    refine S_bastore d_PG_tamper_36 (by decide) a282 (vp_in_nI (by omega) (by omega)) ?_
    refine ST.lift (fun _ _ k => T_iconst (v := nI 1) d_PG_tamper_37 (by decide) k) ?_
    exact S_ret d_PG_tamper_38 rfl (nar_z (by omega)) (by decide) (by decide) (hQ 1 _ (by omega) hv2 hm5)
  · refine ST.lift (fun _ _ k => T_iconst (v := nI 0) d_PG_tamper_10 (by decide) k) ?_
    exact S_ret d_PG_tamper_11 rfl (nar_z (by omega)) (by decide) (by decide) (hQ 0 _ (by omega) hv2 hm5)
set_option maxRecDepth 100000 in
set_option maxHeartbeats 4000000 in
theorem c_PG_isOnWire_0_3 (G : GX) (v : Nat → Int32) (i : Nat) (b_i : i < 2147483648) (hv : okv v) : CS G mi_PG_isOnWire [.ref 61, .int (nI 0), .int (nI 3), .int (nI i)] v (fun r v' => ∃ z : Nat, z ≤ 1 ∧ (z = 1 → i < 64) ∧ r = some (.int (nI z)) ∧ okv v' ∧ mdf [] v v') := by
  refine CS.of (by decide) (Nat.le_of_ble_eq_true rfl) ?_
  generalize hQe : (fun (r : Option Value) (v' : Nat → Int32) => ∃ z : Nat, z ≤ 1 ∧ (z = 1 → i < 64) ∧ r = some (.int (nI z)) ∧ okv v' ∧ mdf [] v v') = Q
  have hQ : ∀ (z : Nat) (u : Nat → Int32), z ≤ 1 → (z = 1 → i < 64) → okv u → mdf [] v u → Q (some (.int (nI z))) u := by rw [← hQe]; exact fun z u hz hi h1 h2  => ⟨z, hz, hi, rfl, h1, h2⟩
  clear hQe
  have hm : mdf [] v v := mdf.rf
  show ST G mi_PG_isOnWire 0 [(0, .ref 61), (1, .int (nI 0)), (2, .int (nI 3)), (3, .int (nI i))] [] v 0 0 Q
  refine ST.lift (fun _ _ k => T_iload_n d_PG_isOnWire_0 rfl k) ?_
  refine S_static (as := [.int (nI 0)]) (rest := []) d_PG_isOnWire_1 rfl (jw_PG_isSession.jo (by decide)) lm_PG_133 jt_PG_isSession rfl (Nat.le_of_ble_eq_true rfl) (by decide) (by decide) (c_PG_isSession G v 0 (by omega)) (fun r v' hq => ?_)
  rw [hq.1, hq.2]
  clear hq r v'
  show ST G mi_PG_isOnWire 4 [(0, .ref 61), (1, .int (nI 0)), (2, .int (nI 3)), (3, .int (nI i))] [.int (nI 1)] v 0 0 _
  refine S_if_eqN d_PG_isOnWire_4 rfl (by omega) (fun c => by first | exact absurd c (by omega) | exact c.elim | exact absurd c (by decide) | exact absurd (by assumption) c | exact absurd c (by assumption)) (fun _ => ?_)
  refine ST.lift (fun _ _ k => T_iload_n d_PG_isOnWire_7 rfl k) ?_
  refine ST.lift (fun _ _ k => T_iconst (v := nI 1) d_PG_isOnWire_8 (by decide) k) ?_
  refine S_icmp_ltN d_PG_isOnWire_9 rfl (by omega) (by omega) (fun c => by first | exact absurd c (by omega) | exact c.elim | exact absurd c (by decide) | exact absurd (by assumption) c | exact absurd c (by assumption)) (fun _ => ?_)
  refine ST.lift (fun _ _ k => T_iload_n d_PG_isOnWire_12 rfl k) ?_
  refine ST.lift (fun _ _ k => T_iconst (v := nI 3) d_PG_isOnWire_13 (by decide) k) ?_
  refine S_icmp_gtN d_PG_isOnWire_14 rfl (by omega) (by omega) (fun c => by first | exact absurd c (by omega) | exact c.elim | exact absurd c (by decide) | exact absurd (by assumption) c | exact absurd c (by assumption)) (fun _ => ?_)
  refine ST.lift (fun _ _ k => T_aload_n (v := .ref 61) d_PG_isOnWire_17 rfl (Or.inr ⟨_, rfl⟩) k) ?_
  refine S_getfield d_PG_isOnWire_18 fg_PG_34 (w61 _) rfl ?_
  refine ST.lift (fun _ _ k => T_iload_n d_PG_isOnWire_21 rfl k) ?_
  refine S_aaload (C0 := "PasswordGate$Session") d_PG_isOnWire_22 (by decide) (w264 _) rfl (vp_in_nI (by omega) (by omega)) ?_
  refine S_getfield d_PG_isOnWire_23 fg_PG_158 (w265 _) rfl ?_
  refine ST.lift (fun _ _ k => T_iload_n d_PG_isOnWire_26 rfl k) ?_
  refine ST.lift (fun _ _ k => T_iconst (v := nI 1) d_PG_isOnWire_27 (by decide) k) ?_
  refine S_isubN d_PG_isOnWire_28 (by omega) ?_
  refine S_topi (y := nI 2) (by decide) ?_
  refine S_aaload (C0 := "PasswordGate$Bytes") d_PG_isOnWire_29 (by decide) (w266 _) rfl (vp_in_nI (by omega) (by omega)) ?_
  refine ST.lift (fun _ _ k => T_iload_n d_PG_isOnWire_30 rfl k) ?_
  obtain ⟨k1, hk1, ek1⟩ := hv.get (j := 30) (c := 64) (by decide)
  refine S_virtual (as := [.int (nI i)]) (rest := []) (b := 283) d_PG_isOnWire_31 rfl (jw_By_has.jo (by decide)) lm_PG_119 ji_By_has js_By_has (w283 _) rfl rfl rfl (Nat.le_of_ble_eq_true rfl) (by decide) (by decide) (c_By_has_n G v 283 284 64 30 ⟨w283, a284, by decide, u283_1, by decide, by decide⟩ i (by omega) k1 ek1 (by omega) hv) (fun r u2 hq => ?_)
  obtain ⟨z5, hz5, hiz5, hr, hv3, hm4, fe0_u2⟩ := hq
  rw [hr]
  clear hr r
  have hm6 := hm.go hm4 (by intro i hi; simp only [List.mem_cons, List.not_mem_nil, or_false] at hi ⊢ <;> omega)
  have e7 : u2 30 = nI k1 := (hm4 30 (by decide)).trans ek1
  show ST G mi_PG_isOnWire 34 [(0, .ref 61), (1, .int (nI 0)), (2, .int (nI 3)), (3, .int (nI i))] [.int (nI z5)] u2 0 0 _
  refine S_if_eqN d_PG_isOnWire_34 rfl (by omega) (fun c8 => ?_) (fun c8 => ?_)
  · refine ST.lift (fun _ _ k => T_iconst (v := nI 0) d_PG_isOnWire_41 (by decide) k) ?_
    exact S_ret d_PG_isOnWire_42 rfl (nar_z (by omega)) (by decide) (by decide) (hQ 0 _ (by omega) (by omega) hv3 hm6)
  · refine ST.lift (fun _ _ k => T_iconst (v := nI 1) d_PG_isOnWire_37 (by decide) k) ?_
    refine ST.lift (fun _ _ k => T_goto (tgt := 42) d_PG_isOnWire_38 rfl k) ?_
    exact S_ret d_PG_isOnWire_42 rfl (nar_z (by omega)) (by decide) (by decide) (hQ 1 _ (by omega) (by omega) hv3 hm6)
set_option maxRecDepth 100000 in
set_option maxHeartbeats 4000000 in
theorem c_PG_tamper_0_3 (G : GX) (v : Nat → Int32) (i : Nat) (b_i : i < 2147483648) (mask : Int32) (hv : okv v) : CS G mi_PG_tamper [.ref 61, .int (nI 0), .int (nI 3), .int (nI i), .int mask] v (fun r v' => ∃ z : Nat, z ≤ 1 ∧ r = some (.int (nI z)) ∧ okv v' ∧ mdf [] v v') := by
  refine CS.of (by decide) (Nat.le_of_ble_eq_true rfl) ?_
  generalize hQe : (fun (r : Option Value) (v' : Nat → Int32) => ∃ z : Nat, z ≤ 1 ∧ r = some (.int (nI z)) ∧ okv v' ∧ mdf [] v v') = Q
  have hQ : ∀ (z : Nat) (u : Nat → Int32), z ≤ 1 → okv u → mdf [] v u → Q (some (.int (nI z))) u := by rw [← hQe]; exact fun z u hz h1 h2  => ⟨z, hz, rfl, h1, h2⟩
  clear hQe
  have hm : mdf [] v v := mdf.rf
  show ST G mi_PG_tamper 0 [(0, .ref 61), (1, .int (nI 0)), (2, .int (nI 3)), (3, .int (nI i)), (4, .int mask)] [] v 0 0 Q
  refine ST.lift (fun _ _ k => T_aload_n (v := .ref 61) d_PG_tamper_0 rfl (Or.inr ⟨_, rfl⟩) k) ?_
  refine ST.lift (fun _ _ k => T_iload_n d_PG_tamper_1 rfl k) ?_
  refine ST.lift (fun _ _ k => T_iload_n d_PG_tamper_2 rfl k) ?_
  refine ST.lift (fun _ _ k => T_iload_n d_PG_tamper_3 rfl k) ?_
  refine S_virtual (as := [.int (nI 0), .int (nI 3), .int (nI i)]) (rest := []) (b := 61) d_PG_tamper_4 rfl (jw_PG_isOnWire.jo (by decide)) lm_PG_154 ji_PG_isOnWire js_PG_isOnWire (w61 _) rfl rfl rfl (Nat.le_of_ble_eq_true rfl) (by decide) (by decide) (c_PG_isOnWire_0_3 G v i (by omega) hv) (fun r u1 hq => ?_)
  obtain ⟨z4, hz4, hiz4, hr, hv2, hm3⟩ := hq
  rw [hr]
  clear hr r
  have hm5 := hm.go hm3 (by intro i hi; simp only [List.mem_cons, List.not_mem_nil, or_false] at hi ⊢ <;> omega)
  show ST G mi_PG_tamper 7 [(0, .ref 61), (1, .int (nI 0)), (2, .int (nI 3)), (3, .int (nI i)), (4, .int mask)] [.int (nI z4)] u1 0 0 _
  refine S_if_neN d_PG_tamper_7 rfl (by omega) (fun c6 => ?_) (fun c6 => ?_)
  · refine ST.lift (fun _ _ k => T_aload_n (v := .ref 61) d_PG_tamper_12 rfl (Or.inr ⟨_, rfl⟩) k) ?_
    refine S_getfield d_PG_tamper_13 fg_PG_34 (w61 _) rfl ?_
    refine ST.lift (fun _ _ k => T_iload_n d_PG_tamper_16 rfl k) ?_
    refine S_aaload (C0 := "PasswordGate$Session") d_PG_tamper_17 (by decide) (w264 _) rfl (vp_in_nI (by omega) (by omega)) ?_
    refine S_getfield d_PG_tamper_18 fg_PG_158 (w265 _) rfl ?_
    refine ST.lift (fun _ _ k => T_iload_n d_PG_tamper_21 rfl k) ?_
    refine ST.lift (fun _ _ k => T_iconst (v := nI 1) d_PG_tamper_22 (by decide) k) ?_
    refine S_isubN d_PG_tamper_23 (by omega) ?_
    refine S_topi (y := nI 2) (by decide) ?_
    refine S_aaload (C0 := "PasswordGate$Bytes") d_PG_tamper_24 (by decide) (w266 _) rfl (vp_in_nI (by omega) (by omega)) ?_
    refine S_getfield d_PG_tamper_25 fg_PG_93 (w283 _) rfl ?_
    refine ST.lift (fun _ _ k => T_iload_n d_PG_tamper_28 rfl k) ?_
    refine ST.lift (fun _ _ k => T_dup2 d_PG_tamper_29 rfl rfl k) ?_
    refine S_baload d_PG_tamper_30 a284 (vp_in_nI (by omega) (by omega)) (fun z7 hz7 => ?_)
    refine ST.lift (fun _ _ k => T_iload d_PG_tamper_31 rfl k) ?_
    refine ST.lift (fun _ _ k => T_i2b d_PG_tamper_33 k) (S_anyi fun z8 => ?_)
    refine ST.lift (fun _ _ k => T_ixor d_PG_tamper_34 k) (S_anyi fun z9 => ?_)
    refine ST.lift (fun _ _ k => T_i2b d_PG_tamper_35 k) (S_anyi fun z10 => ?_)
    refine S_bastore d_PG_tamper_36 (by decide) a284 (vp_in_nI (by omega) (by omega)) ?_
    refine ST.lift (fun _ _ k => T_iconst (v := nI 1) d_PG_tamper_37 (by decide) k) ?_
    exact S_ret d_PG_tamper_38 rfl (nar_z (by omega)) (by decide) (by decide) (hQ 1 _ (by omega) hv2 hm5)
  · refine ST.lift (fun _ _ k => T_iconst (v := nI 0) d_PG_tamper_10 (by decide) k) ?_
    exact S_ret d_PG_tamper_11 rfl (nar_z (by omega)) (by decide) (by decide) (hQ 0 _ (by omega) hv2 hm5)
set_option maxRecDepth 100000 in
set_option maxHeartbeats 4000000 in
theorem c_PG_isOnWire_1_1 (G : GX) (v : Nat → Int32) (i : Nat) (b_i : i < 2147483648) (hv : okv v) : CS G mi_PG_isOnWire [.ref 61, .int (nI 1), .int (nI 1), .int (nI i)] v (fun r v' => ∃ z : Nat, z ≤ 1 ∧ (z = 1 → i < 96) ∧ r = some (.int (nI z)) ∧ okv v' ∧ mdf [] v v') := by
  refine CS.of (by decide) (Nat.le_of_ble_eq_true rfl) ?_
  generalize hQe : (fun (r : Option Value) (v' : Nat → Int32) => ∃ z : Nat, z ≤ 1 ∧ (z = 1 → i < 96) ∧ r = some (.int (nI z)) ∧ okv v' ∧ mdf [] v v') = Q
  have hQ : ∀ (z : Nat) (u : Nat → Int32), z ≤ 1 → (z = 1 → i < 96) → okv u → mdf [] v u → Q (some (.int (nI z))) u := by rw [← hQe]; exact fun z u hz hi h1 h2  => ⟨z, hz, hi, rfl, h1, h2⟩
  clear hQe
  have hm : mdf [] v v := mdf.rf
  show ST G mi_PG_isOnWire 0 [(0, .ref 61), (1, .int (nI 1)), (2, .int (nI 1)), (3, .int (nI i))] [] v 0 0 Q
  refine ST.lift (fun _ _ k => T_iload_n d_PG_isOnWire_0 rfl k) ?_
  refine S_static (as := [.int (nI 1)]) (rest := []) d_PG_isOnWire_1 rfl (jw_PG_isSession.jo (by decide)) lm_PG_133 jt_PG_isSession rfl (Nat.le_of_ble_eq_true rfl) (by decide) (by decide) (c_PG_isSession G v 1 (by omega)) (fun r v' hq => ?_)
  rw [hq.1, hq.2]
  clear hq r v'
  show ST G mi_PG_isOnWire 4 [(0, .ref 61), (1, .int (nI 1)), (2, .int (nI 1)), (3, .int (nI i))] [.int (nI 1)] v 0 0 _
  refine S_if_eqN d_PG_isOnWire_4 rfl (by omega) (fun c => by first | exact absurd c (by omega) | exact c.elim | exact absurd c (by decide) | exact absurd (by assumption) c | exact absurd c (by assumption)) (fun _ => ?_)
  refine ST.lift (fun _ _ k => T_iload_n d_PG_isOnWire_7 rfl k) ?_
  refine ST.lift (fun _ _ k => T_iconst (v := nI 1) d_PG_isOnWire_8 (by decide) k) ?_
  refine S_icmp_ltN d_PG_isOnWire_9 rfl (by omega) (by omega) (fun c => by first | exact absurd c (by omega) | exact c.elim | exact absurd c (by decide) | exact absurd (by assumption) c | exact absurd c (by assumption)) (fun _ => ?_)
  refine ST.lift (fun _ _ k => T_iload_n d_PG_isOnWire_12 rfl k) ?_
  refine ST.lift (fun _ _ k => T_iconst (v := nI 3) d_PG_isOnWire_13 (by decide) k) ?_
  refine S_icmp_gtN d_PG_isOnWire_14 rfl (by omega) (by omega) (fun c => by first | exact absurd c (by omega) | exact c.elim | exact absurd c (by decide) | exact absurd (by assumption) c | exact absurd c (by assumption)) (fun _ => ?_)
  refine ST.lift (fun _ _ k => T_aload_n (v := .ref 61) d_PG_isOnWire_17 rfl (Or.inr ⟨_, rfl⟩) k) ?_
  refine S_getfield d_PG_isOnWire_18 fg_PG_34 (w61 _) rfl ?_
  refine ST.lift (fun _ _ k => T_iload_n d_PG_isOnWire_21 rfl k) ?_
  refine S_aaload (C0 := "PasswordGate$Session") d_PG_isOnWire_22 (by decide) (w264 _) rfl (vp_in_nI (by omega) (by omega)) ?_
  refine S_getfield d_PG_isOnWire_23 fg_PG_158 (w291 _) rfl ?_
  refine ST.lift (fun _ _ k => T_iload_n d_PG_isOnWire_26 rfl k) ?_
  refine ST.lift (fun _ _ k => T_iconst (v := nI 1) d_PG_isOnWire_27 (by decide) k) ?_
  refine S_isubN d_PG_isOnWire_28 (by omega) ?_
  refine S_topi (y := nI 0) (by decide) ?_
  refine S_aaload (C0 := "PasswordGate$Bytes") d_PG_isOnWire_29 (by decide) (w292 _) rfl (vp_in_nI (by omega) (by omega)) ?_
  refine ST.lift (fun _ _ k => T_iload_n d_PG_isOnWire_30 rfl k) ?_
  obtain ⟨k1, hk1, ek1⟩ := hv.get (j := 38) (c := 96) (by decide)
  refine S_virtual (as := [.int (nI i)]) (rest := []) (b := 305) d_PG_isOnWire_31 rfl (jw_By_has.jo (by decide)) lm_PG_119 ji_By_has js_By_has (w305 _) rfl rfl rfl (Nat.le_of_ble_eq_true rfl) (by decide) (by decide) (c_By_has_n G v 305 306 96 38 ⟨w305, a306, by decide, u305_1, by decide, by decide⟩ i (by omega) k1 ek1 (by omega) hv) (fun r u2 hq => ?_)
  obtain ⟨z5, hz5, hiz5, hr, hv3, hm4, fe0_u2⟩ := hq
  rw [hr]
  clear hr r
  have hm6 := hm.go hm4 (by intro i hi; simp only [List.mem_cons, List.not_mem_nil, or_false] at hi ⊢ <;> omega)
  have e7 : u2 38 = nI k1 := (hm4 38 (by decide)).trans ek1
  show ST G mi_PG_isOnWire 34 [(0, .ref 61), (1, .int (nI 1)), (2, .int (nI 1)), (3, .int (nI i))] [.int (nI z5)] u2 0 0 _
  refine S_if_eqN d_PG_isOnWire_34 rfl (by omega) (fun c8 => ?_) (fun c8 => ?_)
  · refine ST.lift (fun _ _ k => T_iconst (v := nI 0) d_PG_isOnWire_41 (by decide) k) ?_
    exact S_ret d_PG_isOnWire_42 rfl (nar_z (by omega)) (by decide) (by decide) (hQ 0 _ (by omega) (by omega) hv3 hm6)
  · refine ST.lift (fun _ _ k => T_iconst (v := nI 1) d_PG_isOnWire_37 (by decide) k) ?_
    refine ST.lift (fun _ _ k => T_goto (tgt := 42) d_PG_isOnWire_38 rfl k) ?_
    exact S_ret d_PG_isOnWire_42 rfl (nar_z (by omega)) (by decide) (by decide) (hQ 1 _ (by omega) (by omega) hv3 hm6)
set_option maxRecDepth 100000 in
set_option maxHeartbeats 4000000 in
theorem c_PG_tamper_1_1 (G : GX) (v : Nat → Int32) (i : Nat) (b_i : i < 2147483648) (mask : Int32) (hv : okv v) : CS G mi_PG_tamper [.ref 61, .int (nI 1), .int (nI 1), .int (nI i), .int mask] v (fun r v' => ∃ z : Nat, z ≤ 1 ∧ r = some (.int (nI z)) ∧ okv v' ∧ mdf [] v v') := by
  refine CS.of (by decide) (Nat.le_of_ble_eq_true rfl) ?_
  generalize hQe : (fun (r : Option Value) (v' : Nat → Int32) => ∃ z : Nat, z ≤ 1 ∧ r = some (.int (nI z)) ∧ okv v' ∧ mdf [] v v') = Q
  have hQ : ∀ (z : Nat) (u : Nat → Int32), z ≤ 1 → okv u → mdf [] v u → Q (some (.int (nI z))) u := by rw [← hQe]; exact fun z u hz h1 h2  => ⟨z, hz, rfl, h1, h2⟩
  clear hQe
  have hm : mdf [] v v := mdf.rf
  show ST G mi_PG_tamper 0 [(0, .ref 61), (1, .int (nI 1)), (2, .int (nI 1)), (3, .int (nI i)), (4, .int mask)] [] v 0 0 Q
  refine ST.lift (fun _ _ k => T_aload_n (v := .ref 61) d_PG_tamper_0 rfl (Or.inr ⟨_, rfl⟩) k) ?_
  refine ST.lift (fun _ _ k => T_iload_n d_PG_tamper_1 rfl k) ?_
  refine ST.lift (fun _ _ k => T_iload_n d_PG_tamper_2 rfl k) ?_
  refine ST.lift (fun _ _ k => T_iload_n d_PG_tamper_3 rfl k) ?_
  refine S_virtual (as := [.int (nI 1), .int (nI 1), .int (nI i)]) (rest := []) (b := 61) d_PG_tamper_4 rfl (jw_PG_isOnWire.jo (by decide)) lm_PG_154 ji_PG_isOnWire js_PG_isOnWire (w61 _) rfl rfl rfl (Nat.le_of_ble_eq_true rfl) (by decide) (by decide) (c_PG_isOnWire_1_1 G v i (by omega) hv) (fun r u1 hq => ?_)
  obtain ⟨z4, hz4, hiz4, hr, hv2, hm3⟩ := hq
  rw [hr]
  clear hr r
  have hm5 := hm.go hm3 (by intro i hi; simp only [List.mem_cons, List.not_mem_nil, or_false] at hi ⊢ <;> omega)
  show ST G mi_PG_tamper 7 [(0, .ref 61), (1, .int (nI 1)), (2, .int (nI 1)), (3, .int (nI i)), (4, .int mask)] [.int (nI z4)] u1 0 0 _
  refine S_if_neN d_PG_tamper_7 rfl (by omega) (fun c6 => ?_) (fun c6 => ?_)
  · refine ST.lift (fun _ _ k => T_aload_n (v := .ref 61) d_PG_tamper_12 rfl (Or.inr ⟨_, rfl⟩) k) ?_
    refine S_getfield d_PG_tamper_13 fg_PG_34 (w61 _) rfl ?_
    refine ST.lift (fun _ _ k => T_iload_n d_PG_tamper_16 rfl k) ?_
    refine S_aaload (C0 := "PasswordGate$Session") d_PG_tamper_17 (by decide) (w264 _) rfl (vp_in_nI (by omega) (by omega)) ?_
    refine S_getfield d_PG_tamper_18 fg_PG_158 (w291 _) rfl ?_
    refine ST.lift (fun _ _ k => T_iload_n d_PG_tamper_21 rfl k) ?_
    refine ST.lift (fun _ _ k => T_iconst (v := nI 1) d_PG_tamper_22 (by decide) k) ?_
    refine S_isubN d_PG_tamper_23 (by omega) ?_
    refine S_topi (y := nI 0) (by decide) ?_
    refine S_aaload (C0 := "PasswordGate$Bytes") d_PG_tamper_24 (by decide) (w292 _) rfl (vp_in_nI (by omega) (by omega)) ?_
    refine S_getfield d_PG_tamper_25 fg_PG_93 (w305 _) rfl ?_
    refine ST.lift (fun _ _ k => T_iload_n d_PG_tamper_28 rfl k) ?_
    refine ST.lift (fun _ _ k => T_dup2 d_PG_tamper_29 rfl rfl k) ?_
    refine S_baload d_PG_tamper_30 a306 (vp_in_nI (by omega) (by omega)) (fun z7 hz7 => ?_)
    refine ST.lift (fun _ _ k => T_iload d_PG_tamper_31 rfl k) ?_
    refine ST.lift (fun _ _ k => T_i2b d_PG_tamper_33 k) (S_anyi fun z8 => ?_)
    refine ST.lift (fun _ _ k => T_ixor d_PG_tamper_34 k) (S_anyi fun z9 => ?_)
    refine ST.lift (fun _ _ k => T_i2b d_PG_tamper_35 k) (S_anyi fun z10 => ?_)
    refine S_bastore d_PG_tamper_36 (by decide) a306 (vp_in_nI (by omega) (by omega)) ?_
    refine ST.lift (fun _ _ k => T_iconst (v := nI 1) d_PG_tamper_37 (by decide) k) ?_
    exact S_ret d_PG_tamper_38 rfl (nar_z (by omega)) (by decide) (by decide) (hQ 1 _ (by omega) hv2 hm5)
  · refine ST.lift (fun _ _ k => T_iconst (v := nI 0) d_PG_tamper_10 (by decide) k) ?_
    exact S_ret d_PG_tamper_11 rfl (nar_z (by omega)) (by decide) (by decide) (hQ 0 _ (by omega) hv2 hm5)
set_option maxRecDepth 100000 in
set_option maxHeartbeats 4000000 in
theorem c_PG_isOnWire_1_2 (G : GX) (v : Nat → Int32) (i : Nat) (b_i : i < 2147483648) (hv : okv v) : CS G mi_PG_isOnWire [.ref 61, .int (nI 1), .int (nI 2), .int (nI i)] v (fun r v' => ∃ z : Nat, z ≤ 1 ∧ (z = 1 → i < 320) ∧ r = some (.int (nI z)) ∧ okv v' ∧ mdf [] v v') := by
  refine CS.of (by decide) (Nat.le_of_ble_eq_true rfl) ?_
  generalize hQe : (fun (r : Option Value) (v' : Nat → Int32) => ∃ z : Nat, z ≤ 1 ∧ (z = 1 → i < 320) ∧ r = some (.int (nI z)) ∧ okv v' ∧ mdf [] v v') = Q
  have hQ : ∀ (z : Nat) (u : Nat → Int32), z ≤ 1 → (z = 1 → i < 320) → okv u → mdf [] v u → Q (some (.int (nI z))) u := by rw [← hQe]; exact fun z u hz hi h1 h2  => ⟨z, hz, hi, rfl, h1, h2⟩
  clear hQe
  have hm : mdf [] v v := mdf.rf
  show ST G mi_PG_isOnWire 0 [(0, .ref 61), (1, .int (nI 1)), (2, .int (nI 2)), (3, .int (nI i))] [] v 0 0 Q
  refine ST.lift (fun _ _ k => T_iload_n d_PG_isOnWire_0 rfl k) ?_
  refine S_static (as := [.int (nI 1)]) (rest := []) d_PG_isOnWire_1 rfl (jw_PG_isSession.jo (by decide)) lm_PG_133 jt_PG_isSession rfl (Nat.le_of_ble_eq_true rfl) (by decide) (by decide) (c_PG_isSession G v 1 (by omega)) (fun r v' hq => ?_)
  rw [hq.1, hq.2]
  clear hq r v'
  show ST G mi_PG_isOnWire 4 [(0, .ref 61), (1, .int (nI 1)), (2, .int (nI 2)), (3, .int (nI i))] [.int (nI 1)] v 0 0 _
  refine S_if_eqN d_PG_isOnWire_4 rfl (by omega) (fun c => by first | exact absurd c (by omega) | exact c.elim | exact absurd c (by decide) | exact absurd (by assumption) c | exact absurd c (by assumption)) (fun _ => ?_)
  refine ST.lift (fun _ _ k => T_iload_n d_PG_isOnWire_7 rfl k) ?_
  refine ST.lift (fun _ _ k => T_iconst (v := nI 1) d_PG_isOnWire_8 (by decide) k) ?_
  refine S_icmp_ltN d_PG_isOnWire_9 rfl (by omega) (by omega) (fun c => by first | exact absurd c (by omega) | exact c.elim | exact absurd c (by decide) | exact absurd (by assumption) c | exact absurd c (by assumption)) (fun _ => ?_)
  refine ST.lift (fun _ _ k => T_iload_n d_PG_isOnWire_12 rfl k) ?_
  refine ST.lift (fun _ _ k => T_iconst (v := nI 3) d_PG_isOnWire_13 (by decide) k) ?_
  refine S_icmp_gtN d_PG_isOnWire_14 rfl (by omega) (by omega) (fun c => by first | exact absurd c (by omega) | exact c.elim | exact absurd c (by decide) | exact absurd (by assumption) c | exact absurd c (by assumption)) (fun _ => ?_)
  refine ST.lift (fun _ _ k => T_aload_n (v := .ref 61) d_PG_isOnWire_17 rfl (Or.inr ⟨_, rfl⟩) k) ?_
  refine S_getfield d_PG_isOnWire_18 fg_PG_34 (w61 _) rfl ?_
  refine ST.lift (fun _ _ k => T_iload_n d_PG_isOnWire_21 rfl k) ?_
  refine S_aaload (C0 := "PasswordGate$Session") d_PG_isOnWire_22 (by decide) (w264 _) rfl (vp_in_nI (by omega) (by omega)) ?_
  refine S_getfield d_PG_isOnWire_23 fg_PG_158 (w291 _) rfl ?_
  refine ST.lift (fun _ _ k => T_iload_n d_PG_isOnWire_26 rfl k) ?_
  refine ST.lift (fun _ _ k => T_iconst (v := nI 1) d_PG_isOnWire_27 (by decide) k) ?_
  refine S_isubN d_PG_isOnWire_28 (by omega) ?_
  refine S_topi (y := nI 1) (by decide) ?_
  refine S_aaload (C0 := "PasswordGate$Bytes") d_PG_isOnWire_29 (by decide) (w292 _) rfl (vp_in_nI (by omega) (by omega)) ?_
  refine ST.lift (fun _ _ k => T_iload_n d_PG_isOnWire_30 rfl k) ?_
  obtain ⟨k1, hk1, ek1⟩ := hv.get (j := 39) (c := 320) (by decide)
  refine S_virtual (as := [.int (nI i)]) (rest := []) (b := 307) d_PG_isOnWire_31 rfl (jw_By_has.jo (by decide)) lm_PG_119 ji_By_has js_By_has (w307 _) rfl rfl rfl (Nat.le_of_ble_eq_true rfl) (by decide) (by decide) (c_By_has_n G v 307 308 320 39 ⟨w307, a308, by decide, u307_1, by decide, by decide⟩ i (by omega) k1 ek1 (by omega) hv) (fun r u2 hq => ?_)
  obtain ⟨z5, hz5, hiz5, hr, hv3, hm4, fe0_u2⟩ := hq
  rw [hr]
  clear hr r
  have hm6 := hm.go hm4 (by intro i hi; simp only [List.mem_cons, List.not_mem_nil, or_false] at hi ⊢ <;> omega)
  have e7 : u2 39 = nI k1 := (hm4 39 (by decide)).trans ek1
  show ST G mi_PG_isOnWire 34 [(0, .ref 61), (1, .int (nI 1)), (2, .int (nI 2)), (3, .int (nI i))] [.int (nI z5)] u2 0 0 _
  refine S_if_eqN d_PG_isOnWire_34 rfl (by omega) (fun c8 => ?_) (fun c8 => ?_)
  · refine ST.lift (fun _ _ k => T_iconst (v := nI 0) d_PG_isOnWire_41 (by decide) k) ?_
    exact S_ret d_PG_isOnWire_42 rfl (nar_z (by omega)) (by decide) (by decide) (hQ 0 _ (by omega) (by omega) hv3 hm6)
  · refine ST.lift (fun _ _ k => T_iconst (v := nI 1) d_PG_isOnWire_37 (by decide) k) ?_
    refine ST.lift (fun _ _ k => T_goto (tgt := 42) d_PG_isOnWire_38 rfl k) ?_
    exact S_ret d_PG_isOnWire_42 rfl (nar_z (by omega)) (by decide) (by decide) (hQ 1 _ (by omega) (by omega) hv3 hm6)
set_option maxRecDepth 100000 in
set_option maxHeartbeats 4000000 in
theorem c_PG_tamper_1_2 (G : GX) (v : Nat → Int32) (i : Nat) (b_i : i < 2147483648) (mask : Int32) (hv : okv v) : CS G mi_PG_tamper [.ref 61, .int (nI 1), .int (nI 2), .int (nI i), .int mask] v (fun r v' => ∃ z : Nat, z ≤ 1 ∧ r = some (.int (nI z)) ∧ okv v' ∧ mdf [] v v') := by
  refine CS.of (by decide) (Nat.le_of_ble_eq_true rfl) ?_
  generalize hQe : (fun (r : Option Value) (v' : Nat → Int32) => ∃ z : Nat, z ≤ 1 ∧ r = some (.int (nI z)) ∧ okv v' ∧ mdf [] v v') = Q
  have hQ : ∀ (z : Nat) (u : Nat → Int32), z ≤ 1 → okv u → mdf [] v u → Q (some (.int (nI z))) u := by rw [← hQe]; exact fun z u hz h1 h2  => ⟨z, hz, rfl, h1, h2⟩
  clear hQe
  have hm : mdf [] v v := mdf.rf
  show ST G mi_PG_tamper 0 [(0, .ref 61), (1, .int (nI 1)), (2, .int (nI 2)), (3, .int (nI i)), (4, .int mask)] [] v 0 0 Q
  refine ST.lift (fun _ _ k => T_aload_n (v := .ref 61) d_PG_tamper_0 rfl (Or.inr ⟨_, rfl⟩) k) ?_
  refine ST.lift (fun _ _ k => T_iload_n d_PG_tamper_1 rfl k) ?_
  refine ST.lift (fun _ _ k => T_iload_n d_PG_tamper_2 rfl k) ?_
  refine ST.lift (fun _ _ k => T_iload_n d_PG_tamper_3 rfl k) ?_
  refine S_virtual (as := [.int (nI 1), .int (nI 2), .int (nI i)]) (rest := []) (b := 61) d_PG_tamper_4 rfl (jw_PG_isOnWire.jo (by decide)) lm_PG_154 ji_PG_isOnWire js_PG_isOnWire (w61 _) rfl rfl rfl (Nat.le_of_ble_eq_true rfl) (by decide) (by decide) (c_PG_isOnWire_1_2 G v i (by omega) hv) (fun r u1 hq => ?_)
  obtain ⟨z4, hz4, hiz4, hr, hv2, hm3⟩ := hq
  rw [hr]
  clear hr r
  have hm5 := hm.go hm3 (by intro i hi; simp only [List.mem_cons, List.not_mem_nil, or_false] at hi ⊢ <;> omega)
  show ST G mi_PG_tamper 7 [(0, .ref 61), (1, .int (nI 1)), (2, .int (nI 2)), (3, .int (nI i)), (4, .int mask)] [.int (nI z4)] u1 0 0 _
  refine S_if_neN d_PG_tamper_7 rfl (by omega) (fun c6 => ?_) (fun c6 => ?_)
  · refine ST.lift (fun _ _ k => T_aload_n (v := .ref 61) d_PG_tamper_12 rfl (Or.inr ⟨_, rfl⟩) k) ?_
    refine S_getfield d_PG_tamper_13 fg_PG_34 (w61 _) rfl ?_
    refine ST.lift (fun _ _ k => T_iload_n d_PG_tamper_16 rfl k) ?_
    refine S_aaload (C0 := "PasswordGate$Session") d_PG_tamper_17 (by decide) (w264 _) rfl (vp_in_nI (by omega) (by omega)) ?_
    refine S_getfield d_PG_tamper_18 fg_PG_158 (w291 _) rfl ?_
    refine ST.lift (fun _ _ k => T_iload_n d_PG_tamper_21 rfl k) ?_
    refine ST.lift (fun _ _ k => T_iconst (v := nI 1) d_PG_tamper_22 (by decide) k) ?_
    refine S_isubN d_PG_tamper_23 (by omega) ?_
    refine S_topi (y := nI 1) (by decide) ?_
    refine S_aaload (C0 := "PasswordGate$Bytes") d_PG_tamper_24 (by decide) (w292 _) rfl (vp_in_nI (by omega) (by omega)) ?_
    refine S_getfield d_PG_tamper_25 fg_PG_93 (w307 _) rfl ?_
    refine ST.lift (fun _ _ k => T_iload_n d_PG_tamper_28 rfl k) ?_
    refine ST.lift (fun _ _ k => T_dup2 d_PG_tamper_29 rfl rfl k) ?_
    refine S_baload d_PG_tamper_30 a308 (vp_in_nI (by omega) (by omega)) (fun z7 hz7 => ?_)
    refine ST.lift (fun _ _ k => T_iload d_PG_tamper_31 rfl k) ?_
    refine ST.lift (fun _ _ k => T_i2b d_PG_tamper_33 k) (S_anyi fun z8 => ?_)
    refine ST.lift (fun _ _ k => T_ixor d_PG_tamper_34 k) (S_anyi fun z9 => ?_)
    refine ST.lift (fun _ _ k => T_i2b d_PG_tamper_35 k) (S_anyi fun z10 => ?_)
    refine S_bastore d_PG_tamper_36 (by decide) a308 (vp_in_nI (by omega) (by omega)) ?_
    refine ST.lift (fun _ _ k => T_iconst (v := nI 1) d_PG_tamper_37 (by decide) k) ?_
    exact S_ret d_PG_tamper_38 rfl (nar_z (by omega)) (by decide) (by decide) (hQ 1 _ (by omega) hv2 hm5)
  · refine ST.lift (fun _ _ k => T_iconst (v := nI 0) d_PG_tamper_10 (by decide) k) ?_
    exact S_ret d_PG_tamper_11 rfl (nar_z (by omega)) (by decide) (by decide) (hQ 0 _ (by omega) hv2 hm5)
set_option maxRecDepth 100000 in
set_option maxHeartbeats 4000000 in
theorem c_PG_isOnWire_1_3 (G : GX) (v : Nat → Int32) (i : Nat) (b_i : i < 2147483648) (hv : okv v) : CS G mi_PG_isOnWire [.ref 61, .int (nI 1), .int (nI 3), .int (nI i)] v (fun r v' => ∃ z : Nat, z ≤ 1 ∧ (z = 1 → i < 64) ∧ r = some (.int (nI z)) ∧ okv v' ∧ mdf [] v v') := by
  refine CS.of (by decide) (Nat.le_of_ble_eq_true rfl) ?_
  generalize hQe : (fun (r : Option Value) (v' : Nat → Int32) => ∃ z : Nat, z ≤ 1 ∧ (z = 1 → i < 64) ∧ r = some (.int (nI z)) ∧ okv v' ∧ mdf [] v v') = Q
  have hQ : ∀ (z : Nat) (u : Nat → Int32), z ≤ 1 → (z = 1 → i < 64) → okv u → mdf [] v u → Q (some (.int (nI z))) u := by rw [← hQe]; exact fun z u hz hi h1 h2  => ⟨z, hz, hi, rfl, h1, h2⟩
  clear hQe
  have hm : mdf [] v v := mdf.rf
  show ST G mi_PG_isOnWire 0 [(0, .ref 61), (1, .int (nI 1)), (2, .int (nI 3)), (3, .int (nI i))] [] v 0 0 Q
  refine ST.lift (fun _ _ k => T_iload_n d_PG_isOnWire_0 rfl k) ?_
  refine S_static (as := [.int (nI 1)]) (rest := []) d_PG_isOnWire_1 rfl (jw_PG_isSession.jo (by decide)) lm_PG_133 jt_PG_isSession rfl (Nat.le_of_ble_eq_true rfl) (by decide) (by decide) (c_PG_isSession G v 1 (by omega)) (fun r v' hq => ?_)
  rw [hq.1, hq.2]
  clear hq r v'
  show ST G mi_PG_isOnWire 4 [(0, .ref 61), (1, .int (nI 1)), (2, .int (nI 3)), (3, .int (nI i))] [.int (nI 1)] v 0 0 _
  refine S_if_eqN d_PG_isOnWire_4 rfl (by omega) (fun c => by first | exact absurd c (by omega) | exact c.elim | exact absurd c (by decide) | exact absurd (by assumption) c | exact absurd c (by assumption)) (fun _ => ?_)
  refine ST.lift (fun _ _ k => T_iload_n d_PG_isOnWire_7 rfl k) ?_
  refine ST.lift (fun _ _ k => T_iconst (v := nI 1) d_PG_isOnWire_8 (by decide) k) ?_
  refine S_icmp_ltN d_PG_isOnWire_9 rfl (by omega) (by omega) (fun c => by first | exact absurd c (by omega) | exact c.elim | exact absurd c (by decide) | exact absurd (by assumption) c | exact absurd c (by assumption)) (fun _ => ?_)
  refine ST.lift (fun _ _ k => T_iload_n d_PG_isOnWire_12 rfl k) ?_
  refine ST.lift (fun _ _ k => T_iconst (v := nI 3) d_PG_isOnWire_13 (by decide) k) ?_
  refine S_icmp_gtN d_PG_isOnWire_14 rfl (by omega) (by omega) (fun c => by first | exact absurd c (by omega) | exact c.elim | exact absurd c (by decide) | exact absurd (by assumption) c | exact absurd c (by assumption)) (fun _ => ?_)
  refine ST.lift (fun _ _ k => T_aload_n (v := .ref 61) d_PG_isOnWire_17 rfl (Or.inr ⟨_, rfl⟩) k) ?_
  refine S_getfield d_PG_isOnWire_18 fg_PG_34 (w61 _) rfl ?_
  refine ST.lift (fun _ _ k => T_iload_n d_PG_isOnWire_21 rfl k) ?_
  refine S_aaload (C0 := "PasswordGate$Session") d_PG_isOnWire_22 (by decide) (w264 _) rfl (vp_in_nI (by omega) (by omega)) ?_
  refine S_getfield d_PG_isOnWire_23 fg_PG_158 (w291 _) rfl ?_
  refine ST.lift (fun _ _ k => T_iload_n d_PG_isOnWire_26 rfl k) ?_
  refine ST.lift (fun _ _ k => T_iconst (v := nI 1) d_PG_isOnWire_27 (by decide) k) ?_
  refine S_isubN d_PG_isOnWire_28 (by omega) ?_
  refine S_topi (y := nI 2) (by decide) ?_
  refine S_aaload (C0 := "PasswordGate$Bytes") d_PG_isOnWire_29 (by decide) (w292 _) rfl (vp_in_nI (by omega) (by omega)) ?_
  refine ST.lift (fun _ _ k => T_iload_n d_PG_isOnWire_30 rfl k) ?_
  obtain ⟨k1, hk1, ek1⟩ := hv.get (j := 40) (c := 64) (by decide)
  refine S_virtual (as := [.int (nI i)]) (rest := []) (b := 309) d_PG_isOnWire_31 rfl (jw_By_has.jo (by decide)) lm_PG_119 ji_By_has js_By_has (w309 _) rfl rfl rfl (Nat.le_of_ble_eq_true rfl) (by decide) (by decide) (c_By_has_n G v 309 310 64 40 ⟨w309, a310, by decide, u309_1, by decide, by decide⟩ i (by omega) k1 ek1 (by omega) hv) (fun r u2 hq => ?_)
  obtain ⟨z5, hz5, hiz5, hr, hv3, hm4, fe0_u2⟩ := hq
  rw [hr]
  clear hr r
  have hm6 := hm.go hm4 (by intro i hi; simp only [List.mem_cons, List.not_mem_nil, or_false] at hi ⊢ <;> omega)
  have e7 : u2 40 = nI k1 := (hm4 40 (by decide)).trans ek1
  show ST G mi_PG_isOnWire 34 [(0, .ref 61), (1, .int (nI 1)), (2, .int (nI 3)), (3, .int (nI i))] [.int (nI z5)] u2 0 0 _
  refine S_if_eqN d_PG_isOnWire_34 rfl (by omega) (fun c8 => ?_) (fun c8 => ?_)
  · refine ST.lift (fun _ _ k => T_iconst (v := nI 0) d_PG_isOnWire_41 (by decide) k) ?_
    exact S_ret d_PG_isOnWire_42 rfl (nar_z (by omega)) (by decide) (by decide) (hQ 0 _ (by omega) (by omega) hv3 hm6)
  · refine ST.lift (fun _ _ k => T_iconst (v := nI 1) d_PG_isOnWire_37 (by decide) k) ?_
    refine ST.lift (fun _ _ k => T_goto (tgt := 42) d_PG_isOnWire_38 rfl k) ?_
    exact S_ret d_PG_isOnWire_42 rfl (nar_z (by omega)) (by decide) (by decide) (hQ 1 _ (by omega) (by omega) hv3 hm6)
set_option maxRecDepth 100000 in
set_option maxHeartbeats 4000000 in
theorem c_PG_tamper_1_3 (G : GX) (v : Nat → Int32) (i : Nat) (b_i : i < 2147483648) (mask : Int32) (hv : okv v) : CS G mi_PG_tamper [.ref 61, .int (nI 1), .int (nI 3), .int (nI i), .int mask] v (fun r v' => ∃ z : Nat, z ≤ 1 ∧ r = some (.int (nI z)) ∧ okv v' ∧ mdf [] v v') := by
  refine CS.of (by decide) (Nat.le_of_ble_eq_true rfl) ?_
  generalize hQe : (fun (r : Option Value) (v' : Nat → Int32) => ∃ z : Nat, z ≤ 1 ∧ r = some (.int (nI z)) ∧ okv v' ∧ mdf [] v v') = Q
  have hQ : ∀ (z : Nat) (u : Nat → Int32), z ≤ 1 → okv u → mdf [] v u → Q (some (.int (nI z))) u := by rw [← hQe]; exact fun z u hz h1 h2  => ⟨z, hz, rfl, h1, h2⟩
  clear hQe
  have hm : mdf [] v v := mdf.rf
  show ST G mi_PG_tamper 0 [(0, .ref 61), (1, .int (nI 1)), (2, .int (nI 3)), (3, .int (nI i)), (4, .int mask)] [] v 0 0 Q
  refine ST.lift (fun _ _ k => T_aload_n (v := .ref 61) d_PG_tamper_0 rfl (Or.inr ⟨_, rfl⟩) k) ?_
  refine ST.lift (fun _ _ k => T_iload_n d_PG_tamper_1 rfl k) ?_
  refine ST.lift (fun _ _ k => T_iload_n d_PG_tamper_2 rfl k) ?_
  refine ST.lift (fun _ _ k => T_iload_n d_PG_tamper_3 rfl k) ?_
  refine S_virtual (as := [.int (nI 1), .int (nI 3), .int (nI i)]) (rest := []) (b := 61) d_PG_tamper_4 rfl (jw_PG_isOnWire.jo (by decide)) lm_PG_154 ji_PG_isOnWire js_PG_isOnWire (w61 _) rfl rfl rfl (Nat.le_of_ble_eq_true rfl) (by decide) (by decide) (c_PG_isOnWire_1_3 G v i (by omega) hv) (fun r u1 hq => ?_)
  obtain ⟨z4, hz4, hiz4, hr, hv2, hm3⟩ := hq
  rw [hr]
  clear hr r
  have hm5 := hm.go hm3 (by intro i hi; simp only [List.mem_cons, List.not_mem_nil, or_false] at hi ⊢ <;> omega)
  show ST G mi_PG_tamper 7 [(0, .ref 61), (1, .int (nI 1)), (2, .int (nI 3)), (3, .int (nI i)), (4, .int mask)] [.int (nI z4)] u1 0 0 _
  refine S_if_neN d_PG_tamper_7 rfl (by omega) (fun c6 => ?_) (fun c6 => ?_)
  · refine ST.lift (fun _ _ k => T_aload_n (v := .ref 61) d_PG_tamper_12 rfl (Or.inr ⟨_, rfl⟩) k) ?_
    refine S_getfield d_PG_tamper_13 fg_PG_34 (w61 _) rfl ?_
    refine ST.lift (fun _ _ k => T_iload_n d_PG_tamper_16 rfl k) ?_
    refine S_aaload (C0 := "PasswordGate$Session") d_PG_tamper_17 (by decide) (w264 _) rfl (vp_in_nI (by omega) (by omega)) ?_
    refine S_getfield d_PG_tamper_18 fg_PG_158 (w291 _) rfl ?_
    refine ST.lift (fun _ _ k => T_iload_n d_PG_tamper_21 rfl k) ?_
    refine ST.lift (fun _ _ k => T_iconst (v := nI 1) d_PG_tamper_22 (by decide) k) ?_
    refine S_isubN d_PG_tamper_23 (by omega) ?_
    refine S_topi (y := nI 2) (by decide) ?_
    refine S_aaload (C0 := "PasswordGate$Bytes") d_PG_tamper_24 (by decide) (w292 _) rfl (vp_in_nI (by omega) (by omega)) ?_
    refine S_getfield d_PG_tamper_25 fg_PG_93 (w309 _) rfl ?_
    refine ST.lift (fun _ _ k => T_iload_n d_PG_tamper_28 rfl k) ?_
    refine ST.lift (fun _ _ k => T_dup2 d_PG_tamper_29 rfl rfl k) ?_
    refine S_baload d_PG_tamper_30 a310 (vp_in_nI (by omega) (by omega)) (fun z7 hz7 => ?_)
    refine ST.lift (fun _ _ k => T_iload d_PG_tamper_31 rfl k) ?_
    refine ST.lift (fun _ _ k => T_i2b d_PG_tamper_33 k) (S_anyi fun z8 => ?_)
    refine ST.lift (fun _ _ k => T_ixor d_PG_tamper_34 k) (S_anyi fun z9 => ?_)
    refine ST.lift (fun _ _ k => T_i2b d_PG_tamper_35 k) (S_anyi fun z10 => ?_)
    refine S_bastore d_PG_tamper_36 (by decide) a310 (vp_in_nI (by omega) (by omega)) ?_
    refine ST.lift (fun _ _ k => T_iconst (v := nI 1) d_PG_tamper_37 (by decide) k) ?_
    exact S_ret d_PG_tamper_38 rfl (nar_z (by omega)) (by decide) (by decide) (hQ 1 _ (by omega) hv2 hm5)
  · refine ST.lift (fun _ _ k => T_iconst (v := nI 0) d_PG_tamper_10 (by decide) k) ?_
    exact S_ret d_PG_tamper_11 rfl (nar_z (by omega)) (by decide) (by decide) (hQ 0 _ (by omega) hv2 hm5)
set_option maxRecDepth 100000 in
set_option maxHeartbeats 4000000 in
theorem c_PG_isOnWire_2_1 (G : GX) (v : Nat → Int32) (i : Nat) (b_i : i < 2147483648) (hv : okv v) : CS G mi_PG_isOnWire [.ref 61, .int (nI 2), .int (nI 1), .int (nI i)] v (fun r v' => ∃ z : Nat, z ≤ 1 ∧ (z = 1 → i < 96) ∧ r = some (.int (nI z)) ∧ okv v' ∧ mdf [] v v') := by
  refine CS.of (by decide) (Nat.le_of_ble_eq_true rfl) ?_
  generalize hQe : (fun (r : Option Value) (v' : Nat → Int32) => ∃ z : Nat, z ≤ 1 ∧ (z = 1 → i < 96) ∧ r = some (.int (nI z)) ∧ okv v' ∧ mdf [] v v') = Q
  have hQ : ∀ (z : Nat) (u : Nat → Int32), z ≤ 1 → (z = 1 → i < 96) → okv u → mdf [] v u → Q (some (.int (nI z))) u := by rw [← hQe]; exact fun z u hz hi h1 h2  => ⟨z, hz, hi, rfl, h1, h2⟩
  clear hQe
  have hm : mdf [] v v := mdf.rf
  show ST G mi_PG_isOnWire 0 [(0, .ref 61), (1, .int (nI 2)), (2, .int (nI 1)), (3, .int (nI i))] [] v 0 0 Q
  refine ST.lift (fun _ _ k => T_iload_n d_PG_isOnWire_0 rfl k) ?_
  refine S_static (as := [.int (nI 2)]) (rest := []) d_PG_isOnWire_1 rfl (jw_PG_isSession.jo (by decide)) lm_PG_133 jt_PG_isSession rfl (Nat.le_of_ble_eq_true rfl) (by decide) (by decide) (c_PG_isSession G v 2 (by omega)) (fun r v' hq => ?_)
  rw [hq.1, hq.2]
  clear hq r v'
  show ST G mi_PG_isOnWire 4 [(0, .ref 61), (1, .int (nI 2)), (2, .int (nI 1)), (3, .int (nI i))] [.int (nI 1)] v 0 0 _
  refine S_if_eqN d_PG_isOnWire_4 rfl (by omega) (fun c => by first | exact absurd c (by omega) | exact c.elim | exact absurd c (by decide) | exact absurd (by assumption) c | exact absurd c (by assumption)) (fun _ => ?_)
  refine ST.lift (fun _ _ k => T_iload_n d_PG_isOnWire_7 rfl k) ?_
  refine ST.lift (fun _ _ k => T_iconst (v := nI 1) d_PG_isOnWire_8 (by decide) k) ?_
  refine S_icmp_ltN d_PG_isOnWire_9 rfl (by omega) (by omega) (fun c => by first | exact absurd c (by omega) | exact c.elim | exact absurd c (by decide) | exact absurd (by assumption) c | exact absurd c (by assumption)) (fun _ => ?_)
  refine ST.lift (fun _ _ k => T_iload_n d_PG_isOnWire_12 rfl k) ?_
  refine ST.lift (fun _ _ k => T_iconst (v := nI 3) d_PG_isOnWire_13 (by decide) k) ?_
  refine S_icmp_gtN d_PG_isOnWire_14 rfl (by omega) (by omega) (fun c => by first | exact absurd c (by omega) | exact c.elim | exact absurd c (by decide) | exact absurd (by assumption) c | exact absurd c (by assumption)) (fun _ => ?_)
  refine ST.lift (fun _ _ k => T_aload_n (v := .ref 61) d_PG_isOnWire_17 rfl (Or.inr ⟨_, rfl⟩) k) ?_
  refine S_getfield d_PG_isOnWire_18 fg_PG_34 (w61 _) rfl ?_
  refine ST.lift (fun _ _ k => T_iload_n d_PG_isOnWire_21 rfl k) ?_
  refine S_aaload (C0 := "PasswordGate$Session") d_PG_isOnWire_22 (by decide) (w264 _) rfl (vp_in_nI (by omega) (by omega)) ?_
  refine S_getfield d_PG_isOnWire_23 fg_PG_158 (w317 _) rfl ?_
  refine ST.lift (fun _ _ k => T_iload_n d_PG_isOnWire_26 rfl k) ?_
  refine ST.lift (fun _ _ k => T_iconst (v := nI 1) d_PG_isOnWire_27 (by decide) k) ?_
  refine S_isubN d_PG_isOnWire_28 (by omega) ?_
  refine S_topi (y := nI 0) (by decide) ?_
  refine S_aaload (C0 := "PasswordGate$Bytes") d_PG_isOnWire_29 (by decide) (w318 _) rfl (vp_in_nI (by omega) (by omega)) ?_
  refine ST.lift (fun _ _ k => T_iload_n d_PG_isOnWire_30 rfl k) ?_
  obtain ⟨k1, hk1, ek1⟩ := hv.get (j := 48) (c := 96) (by decide)
  refine S_virtual (as := [.int (nI i)]) (rest := []) (b := 331) d_PG_isOnWire_31 rfl (jw_By_has.jo (by decide)) lm_PG_119 ji_By_has js_By_has (w331 _) rfl rfl rfl (Nat.le_of_ble_eq_true rfl) (by decide) (by decide) (c_By_has_n G v 331 332 96 48 ⟨w331, a332, by decide, u331_1, by decide, by decide⟩ i (by omega) k1 ek1 (by omega) hv) (fun r u2 hq => ?_)
  obtain ⟨z5, hz5, hiz5, hr, hv3, hm4, fe0_u2⟩ := hq
  rw [hr]
  clear hr r
  have hm6 := hm.go hm4 (by intro i hi; simp only [List.mem_cons, List.not_mem_nil, or_false] at hi ⊢ <;> omega)
  have e7 : u2 48 = nI k1 := (hm4 48 (by decide)).trans ek1
  show ST G mi_PG_isOnWire 34 [(0, .ref 61), (1, .int (nI 2)), (2, .int (nI 1)), (3, .int (nI i))] [.int (nI z5)] u2 0 0 _
  refine S_if_eqN d_PG_isOnWire_34 rfl (by omega) (fun c8 => ?_) (fun c8 => ?_)
  · refine ST.lift (fun _ _ k => T_iconst (v := nI 0) d_PG_isOnWire_41 (by decide) k) ?_
    exact S_ret d_PG_isOnWire_42 rfl (nar_z (by omega)) (by decide) (by decide) (hQ 0 _ (by omega) (by omega) hv3 hm6)
  · refine ST.lift (fun _ _ k => T_iconst (v := nI 1) d_PG_isOnWire_37 (by decide) k) ?_
    refine ST.lift (fun _ _ k => T_goto (tgt := 42) d_PG_isOnWire_38 rfl k) ?_
    exact S_ret d_PG_isOnWire_42 rfl (nar_z (by omega)) (by decide) (by decide) (hQ 1 _ (by omega) (by omega) hv3 hm6)
set_option maxRecDepth 100000 in
set_option maxHeartbeats 4000000 in
theorem c_PG_tamper_2_1 (G : GX) (v : Nat → Int32) (i : Nat) (b_i : i < 2147483648) (mask : Int32) (hv : okv v) : CS G mi_PG_tamper [.ref 61, .int (nI 2), .int (nI 1), .int (nI i), .int mask] v (fun r v' => ∃ z : Nat, z ≤ 1 ∧ r = some (.int (nI z)) ∧ okv v' ∧ mdf [] v v') := by
  refine CS.of (by decide) (Nat.le_of_ble_eq_true rfl) ?_
  generalize hQe : (fun (r : Option Value) (v' : Nat → Int32) => ∃ z : Nat, z ≤ 1 ∧ r = some (.int (nI z)) ∧ okv v' ∧ mdf [] v v') = Q
  have hQ : ∀ (z : Nat) (u : Nat → Int32), z ≤ 1 → okv u → mdf [] v u → Q (some (.int (nI z))) u := by rw [← hQe]; exact fun z u hz h1 h2  => ⟨z, hz, rfl, h1, h2⟩
  clear hQe
  have hm : mdf [] v v := mdf.rf
  show ST G mi_PG_tamper 0 [(0, .ref 61), (1, .int (nI 2)), (2, .int (nI 1)), (3, .int (nI i)), (4, .int mask)] [] v 0 0 Q
  refine ST.lift (fun _ _ k => T_aload_n (v := .ref 61) d_PG_tamper_0 rfl (Or.inr ⟨_, rfl⟩) k) ?_
  refine ST.lift (fun _ _ k => T_iload_n d_PG_tamper_1 rfl k) ?_
  refine ST.lift (fun _ _ k => T_iload_n d_PG_tamper_2 rfl k) ?_
  refine ST.lift (fun _ _ k => T_iload_n d_PG_tamper_3 rfl k) ?_
  refine S_virtual (as := [.int (nI 2), .int (nI 1), .int (nI i)]) (rest := []) (b := 61) d_PG_tamper_4 rfl (jw_PG_isOnWire.jo (by decide)) lm_PG_154 ji_PG_isOnWire js_PG_isOnWire (w61 _) rfl rfl rfl (Nat.le_of_ble_eq_true rfl) (by decide) (by decide) (c_PG_isOnWire_2_1 G v i (by omega) hv) (fun r u1 hq => ?_)
  obtain ⟨z4, hz4, hiz4, hr, hv2, hm3⟩ := hq
  rw [hr]
  clear hr r
  have hm5 := hm.go hm3 (by intro i hi; simp only [List.mem_cons, List.not_mem_nil, or_false] at hi ⊢ <;> omega)
  show ST G mi_PG_tamper 7 [(0, .ref 61), (1, .int (nI 2)), (2, .int (nI 1)), (3, .int (nI i)), (4, .int mask)] [.int (nI z4)] u1 0 0 _
  refine S_if_neN d_PG_tamper_7 rfl (by omega) (fun c6 => ?_) (fun c6 => ?_)
  · refine ST.lift (fun _ _ k => T_aload_n (v := .ref 61) d_PG_tamper_12 rfl (Or.inr ⟨_, rfl⟩) k) ?_
    refine S_getfield d_PG_tamper_13 fg_PG_34 (w61 _) rfl ?_
    refine ST.lift (fun _ _ k => T_iload_n d_PG_tamper_16 rfl k) ?_
    refine S_aaload (C0 := "PasswordGate$Session") d_PG_tamper_17 (by decide) (w264 _) rfl (vp_in_nI (by omega) (by omega)) ?_
    refine S_getfield d_PG_tamper_18 fg_PG_158 (w317 _) rfl ?_
    refine ST.lift (fun _ _ k => T_iload_n d_PG_tamper_21 rfl k) ?_
    refine ST.lift (fun _ _ k => T_iconst (v := nI 1) d_PG_tamper_22 (by decide) k) ?_
    refine S_isubN d_PG_tamper_23 (by omega) ?_
    refine S_topi (y := nI 0) (by decide) ?_
    refine S_aaload (C0 := "PasswordGate$Bytes") d_PG_tamper_24 (by decide) (w318 _) rfl (vp_in_nI (by omega) (by omega)) ?_
    refine S_getfield d_PG_tamper_25 fg_PG_93 (w331 _) rfl ?_
    refine ST.lift (fun _ _ k => T_iload_n d_PG_tamper_28 rfl k) ?_
    refine ST.lift (fun _ _ k => T_dup2 d_PG_tamper_29 rfl rfl k) ?_
    refine S_baload d_PG_tamper_30 a332 (vp_in_nI (by omega) (by omega)) (fun z7 hz7 => ?_)
    refine ST.lift (fun _ _ k => T_iload d_PG_tamper_31 rfl k) ?_
    refine ST.lift (fun _ _ k => T_i2b d_PG_tamper_33 k) (S_anyi fun z8 => ?_)
    refine ST.lift (fun _ _ k => T_ixor d_PG_tamper_34 k) (S_anyi fun z9 => ?_)
    refine ST.lift (fun _ _ k => T_i2b d_PG_tamper_35 k) (S_anyi fun z10 => ?_)
    refine S_bastore d_PG_tamper_36 (by decide) a332 (vp_in_nI (by omega) (by omega)) ?_
    refine ST.lift (fun _ _ k => T_iconst (v := nI 1) d_PG_tamper_37 (by decide) k) ?_
    exact S_ret d_PG_tamper_38 rfl (nar_z (by omega)) (by decide) (by decide) (hQ 1 _ (by omega) hv2 hm5)
  · refine ST.lift (fun _ _ k => T_iconst (v := nI 0) d_PG_tamper_10 (by decide) k) ?_
    exact S_ret d_PG_tamper_11 rfl (nar_z (by omega)) (by decide) (by decide) (hQ 0 _ (by omega) hv2 hm5)
set_option maxRecDepth 100000 in
set_option maxHeartbeats 4000000 in
theorem c_PG_isOnWire_2_2 (G : GX) (v : Nat → Int32) (i : Nat) (b_i : i < 2147483648) (hv : okv v) : CS G mi_PG_isOnWire [.ref 61, .int (nI 2), .int (nI 2), .int (nI i)] v (fun r v' => ∃ z : Nat, z ≤ 1 ∧ (z = 1 → i < 320) ∧ r = some (.int (nI z)) ∧ okv v' ∧ mdf [] v v') := by
  refine CS.of (by decide) (Nat.le_of_ble_eq_true rfl) ?_
  generalize hQe : (fun (r : Option Value) (v' : Nat → Int32) => ∃ z : Nat, z ≤ 1 ∧ (z = 1 → i < 320) ∧ r = some (.int (nI z)) ∧ okv v' ∧ mdf [] v v') = Q
  have hQ : ∀ (z : Nat) (u : Nat → Int32), z ≤ 1 → (z = 1 → i < 320) → okv u → mdf [] v u → Q (some (.int (nI z))) u := by rw [← hQe]; exact fun z u hz hi h1 h2  => ⟨z, hz, hi, rfl, h1, h2⟩
  clear hQe
  have hm : mdf [] v v := mdf.rf
  show ST G mi_PG_isOnWire 0 [(0, .ref 61), (1, .int (nI 2)), (2, .int (nI 2)), (3, .int (nI i))] [] v 0 0 Q
  refine ST.lift (fun _ _ k => T_iload_n d_PG_isOnWire_0 rfl k) ?_
  refine S_static (as := [.int (nI 2)]) (rest := []) d_PG_isOnWire_1 rfl (jw_PG_isSession.jo (by decide)) lm_PG_133 jt_PG_isSession rfl (Nat.le_of_ble_eq_true rfl) (by decide) (by decide) (c_PG_isSession G v 2 (by omega)) (fun r v' hq => ?_)
  rw [hq.1, hq.2]
  clear hq r v'
  show ST G mi_PG_isOnWire 4 [(0, .ref 61), (1, .int (nI 2)), (2, .int (nI 2)), (3, .int (nI i))] [.int (nI 1)] v 0 0 _
  refine S_if_eqN d_PG_isOnWire_4 rfl (by omega) (fun c => by first | exact absurd c (by omega) | exact c.elim | exact absurd c (by decide) | exact absurd (by assumption) c | exact absurd c (by assumption)) (fun _ => ?_)
  refine ST.lift (fun _ _ k => T_iload_n d_PG_isOnWire_7 rfl k) ?_
  refine ST.lift (fun _ _ k => T_iconst (v := nI 1) d_PG_isOnWire_8 (by decide) k) ?_
  refine S_icmp_ltN d_PG_isOnWire_9 rfl (by omega) (by omega) (fun c => by first | exact absurd c (by omega) | exact c.elim | exact absurd c (by decide) | exact absurd (by assumption) c | exact absurd c (by assumption)) (fun _ => ?_)
  refine ST.lift (fun _ _ k => T_iload_n d_PG_isOnWire_12 rfl k) ?_
  refine ST.lift (fun _ _ k => T_iconst (v := nI 3) d_PG_isOnWire_13 (by decide) k) ?_
  refine S_icmp_gtN d_PG_isOnWire_14 rfl (by omega) (by omega) (fun c => by first | exact absurd c (by omega) | exact c.elim | exact absurd c (by decide) | exact absurd (by assumption) c | exact absurd c (by assumption)) (fun _ => ?_)
  refine ST.lift (fun _ _ k => T_aload_n (v := .ref 61) d_PG_isOnWire_17 rfl (Or.inr ⟨_, rfl⟩) k) ?_
  refine S_getfield d_PG_isOnWire_18 fg_PG_34 (w61 _) rfl ?_
  refine ST.lift (fun _ _ k => T_iload_n d_PG_isOnWire_21 rfl k) ?_
  refine S_aaload (C0 := "PasswordGate$Session") d_PG_isOnWire_22 (by decide) (w264 _) rfl (vp_in_nI (by omega) (by omega)) ?_
  refine S_getfield d_PG_isOnWire_23 fg_PG_158 (w317 _) rfl ?_
  refine ST.lift (fun _ _ k => T_iload_n d_PG_isOnWire_26 rfl k) ?_
  refine ST.lift (fun _ _ k => T_iconst (v := nI 1) d_PG_isOnWire_27 (by decide) k) ?_
  refine S_isubN d_PG_isOnWire_28 (by omega) ?_
  refine S_topi (y := nI 1) (by decide) ?_
  refine S_aaload (C0 := "PasswordGate$Bytes") d_PG_isOnWire_29 (by decide) (w318 _) rfl (vp_in_nI (by omega) (by omega)) ?_
  refine ST.lift (fun _ _ k => T_iload_n d_PG_isOnWire_30 rfl k) ?_
  obtain ⟨k1, hk1, ek1⟩ := hv.get (j := 49) (c := 320) (by decide)
  refine S_virtual (as := [.int (nI i)]) (rest := []) (b := 333) d_PG_isOnWire_31 rfl (jw_By_has.jo (by decide)) lm_PG_119 ji_By_has js_By_has (w333 _) rfl rfl rfl (Nat.le_of_ble_eq_true rfl) (by decide) (by decide) (c_By_has_n G v 333 334 320 49 ⟨w333, a334, by decide, u333_1, by decide, by decide⟩ i (by omega) k1 ek1 (by omega) hv) (fun r u2 hq => ?_)
  obtain ⟨z5, hz5, hiz5, hr, hv3, hm4, fe0_u2⟩ := hq
  rw [hr]
  clear hr r
  have hm6 := hm.go hm4 (by intro i hi; simp only [List.mem_cons, List.not_mem_nil, or_false] at hi ⊢ <;> omega)
  have e7 : u2 49 = nI k1 := (hm4 49 (by decide)).trans ek1
  show ST G mi_PG_isOnWire 34 [(0, .ref 61), (1, .int (nI 2)), (2, .int (nI 2)), (3, .int (nI i))] [.int (nI z5)] u2 0 0 _
  refine S_if_eqN d_PG_isOnWire_34 rfl (by omega) (fun c8 => ?_) (fun c8 => ?_)
  · refine ST.lift (fun _ _ k => T_iconst (v := nI 0) d_PG_isOnWire_41 (by decide) k) ?_
    exact S_ret d_PG_isOnWire_42 rfl (nar_z (by omega)) (by decide) (by decide) (hQ 0 _ (by omega) (by omega) hv3 hm6)
  · refine ST.lift (fun _ _ k => T_iconst (v := nI 1) d_PG_isOnWire_37 (by decide) k) ?_
    refine ST.lift (fun _ _ k => T_goto (tgt := 42) d_PG_isOnWire_38 rfl k) ?_
    exact S_ret d_PG_isOnWire_42 rfl (nar_z (by omega)) (by decide) (by decide) (hQ 1 _ (by omega) (by omega) hv3 hm6)
set_option maxRecDepth 100000 in
set_option maxHeartbeats 4000000 in
theorem c_PG_tamper_2_2 (G : GX) (v : Nat → Int32) (i : Nat) (b_i : i < 2147483648) (mask : Int32) (hv : okv v) : CS G mi_PG_tamper [.ref 61, .int (nI 2), .int (nI 2), .int (nI i), .int mask] v (fun r v' => ∃ z : Nat, z ≤ 1 ∧ r = some (.int (nI z)) ∧ okv v' ∧ mdf [] v v') := by
  refine CS.of (by decide) (Nat.le_of_ble_eq_true rfl) ?_
  generalize hQe : (fun (r : Option Value) (v' : Nat → Int32) => ∃ z : Nat, z ≤ 1 ∧ r = some (.int (nI z)) ∧ okv v' ∧ mdf [] v v') = Q
  have hQ : ∀ (z : Nat) (u : Nat → Int32), z ≤ 1 → okv u → mdf [] v u → Q (some (.int (nI z))) u := by rw [← hQe]; exact fun z u hz h1 h2  => ⟨z, hz, rfl, h1, h2⟩
  clear hQe
  have hm : mdf [] v v := mdf.rf
  show ST G mi_PG_tamper 0 [(0, .ref 61), (1, .int (nI 2)), (2, .int (nI 2)), (3, .int (nI i)), (4, .int mask)] [] v 0 0 Q
  refine ST.lift (fun _ _ k => T_aload_n (v := .ref 61) d_PG_tamper_0 rfl (Or.inr ⟨_, rfl⟩) k) ?_
  refine ST.lift (fun _ _ k => T_iload_n d_PG_tamper_1 rfl k) ?_
  refine ST.lift (fun _ _ k => T_iload_n d_PG_tamper_2 rfl k) ?_
  refine ST.lift (fun _ _ k => T_iload_n d_PG_tamper_3 rfl k) ?_
  refine S_virtual (as := [.int (nI 2), .int (nI 2), .int (nI i)]) (rest := []) (b := 61) d_PG_tamper_4 rfl (jw_PG_isOnWire.jo (by decide)) lm_PG_154 ji_PG_isOnWire js_PG_isOnWire (w61 _) rfl rfl rfl (Nat.le_of_ble_eq_true rfl) (by decide) (by decide) (c_PG_isOnWire_2_2 G v i (by omega) hv) (fun r u1 hq => ?_)
  obtain ⟨z4, hz4, hiz4, hr, hv2, hm3⟩ := hq
  rw [hr]
  clear hr r
  have hm5 := hm.go hm3 (by intro i hi; simp only [List.mem_cons, List.not_mem_nil, or_false] at hi ⊢ <;> omega)
  show ST G mi_PG_tamper 7 [(0, .ref 61), (1, .int (nI 2)), (2, .int (nI 2)), (3, .int (nI i)), (4, .int mask)] [.int (nI z4)] u1 0 0 _
  refine S_if_neN d_PG_tamper_7 rfl (by omega) (fun c6 => ?_) (fun c6 => ?_)
  · refine ST.lift (fun _ _ k => T_aload_n (v := .ref 61) d_PG_tamper_12 rfl (Or.inr ⟨_, rfl⟩) k) ?_
    refine S_getfield d_PG_tamper_13 fg_PG_34 (w61 _) rfl ?_
    refine ST.lift (fun _ _ k => T_iload_n d_PG_tamper_16 rfl k) ?_
    refine S_aaload (C0 := "PasswordGate$Session") d_PG_tamper_17 (by decide) (w264 _) rfl (vp_in_nI (by omega) (by omega)) ?_
    refine S_getfield d_PG_tamper_18 fg_PG_158 (w317 _) rfl ?_
    refine ST.lift (fun _ _ k => T_iload_n d_PG_tamper_21 rfl k) ?_
    refine ST.lift (fun _ _ k => T_iconst (v := nI 1) d_PG_tamper_22 (by decide) k) ?_
    refine S_isubN d_PG_tamper_23 (by omega) ?_
    refine S_topi (y := nI 1) (by decide) ?_
    refine S_aaload (C0 := "PasswordGate$Bytes") d_PG_tamper_24 (by decide) (w318 _) rfl (vp_in_nI (by omega) (by omega)) ?_
    refine S_getfield d_PG_tamper_25 fg_PG_93 (w333 _) rfl ?_
    refine ST.lift (fun _ _ k => T_iload_n d_PG_tamper_28 rfl k) ?_
    refine ST.lift (fun _ _ k => T_dup2 d_PG_tamper_29 rfl rfl k) ?_
    refine S_baload d_PG_tamper_30 a334 (vp_in_nI (by omega) (by omega)) (fun z7 hz7 => ?_)
    refine ST.lift (fun _ _ k => T_iload d_PG_tamper_31 rfl k) ?_
    refine ST.lift (fun _ _ k => T_i2b d_PG_tamper_33 k) (S_anyi fun z8 => ?_)
    refine ST.lift (fun _ _ k => T_ixor d_PG_tamper_34 k) (S_anyi fun z9 => ?_)
    refine ST.lift (fun _ _ k => T_i2b d_PG_tamper_35 k) (S_anyi fun z10 => ?_)
    refine S_bastore d_PG_tamper_36 (by decide) a334 (vp_in_nI (by omega) (by omega)) ?_
    refine ST.lift (fun _ _ k => T_iconst (v := nI 1) d_PG_tamper_37 (by decide) k) ?_
    exact S_ret d_PG_tamper_38 rfl (nar_z (by omega)) (by decide) (by decide) (hQ 1 _ (by omega) hv2 hm5)
  · refine ST.lift (fun _ _ k => T_iconst (v := nI 0) d_PG_tamper_10 (by decide) k) ?_
    exact S_ret d_PG_tamper_11 rfl (nar_z (by omega)) (by decide) (by decide) (hQ 0 _ (by omega) hv2 hm5)
set_option maxRecDepth 100000 in
set_option maxHeartbeats 4000000 in
theorem c_PG_isOnWire_2_3 (G : GX) (v : Nat → Int32) (i : Nat) (b_i : i < 2147483648) (hv : okv v) : CS G mi_PG_isOnWire [.ref 61, .int (nI 2), .int (nI 3), .int (nI i)] v (fun r v' => ∃ z : Nat, z ≤ 1 ∧ (z = 1 → i < 64) ∧ r = some (.int (nI z)) ∧ okv v' ∧ mdf [] v v') := by
  refine CS.of (by decide) (Nat.le_of_ble_eq_true rfl) ?_
  generalize hQe : (fun (r : Option Value) (v' : Nat → Int32) => ∃ z : Nat, z ≤ 1 ∧ (z = 1 → i < 64) ∧ r = some (.int (nI z)) ∧ okv v' ∧ mdf [] v v') = Q
  have hQ : ∀ (z : Nat) (u : Nat → Int32), z ≤ 1 → (z = 1 → i < 64) → okv u → mdf [] v u → Q (some (.int (nI z))) u := by rw [← hQe]; exact fun z u hz hi h1 h2  => ⟨z, hz, hi, rfl, h1, h2⟩
  clear hQe
  have hm : mdf [] v v := mdf.rf
  show ST G mi_PG_isOnWire 0 [(0, .ref 61), (1, .int (nI 2)), (2, .int (nI 3)), (3, .int (nI i))] [] v 0 0 Q
  refine ST.lift (fun _ _ k => T_iload_n d_PG_isOnWire_0 rfl k) ?_
  refine S_static (as := [.int (nI 2)]) (rest := []) d_PG_isOnWire_1 rfl (jw_PG_isSession.jo (by decide)) lm_PG_133 jt_PG_isSession rfl (Nat.le_of_ble_eq_true rfl) (by decide) (by decide) (c_PG_isSession G v 2 (by omega)) (fun r v' hq => ?_)
  rw [hq.1, hq.2]
  clear hq r v'
  show ST G mi_PG_isOnWire 4 [(0, .ref 61), (1, .int (nI 2)), (2, .int (nI 3)), (3, .int (nI i))] [.int (nI 1)] v 0 0 _
  refine S_if_eqN d_PG_isOnWire_4 rfl (by omega) (fun c => by first | exact absurd c (by omega) | exact c.elim | exact absurd c (by decide) | exact absurd (by assumption) c | exact absurd c (by assumption)) (fun _ => ?_)
  refine ST.lift (fun _ _ k => T_iload_n d_PG_isOnWire_7 rfl k) ?_
  refine ST.lift (fun _ _ k => T_iconst (v := nI 1) d_PG_isOnWire_8 (by decide) k) ?_
  refine S_icmp_ltN d_PG_isOnWire_9 rfl (by omega) (by omega) (fun c => by first | exact absurd c (by omega) | exact c.elim | exact absurd c (by decide) | exact absurd (by assumption) c | exact absurd c (by assumption)) (fun _ => ?_)
  refine ST.lift (fun _ _ k => T_iload_n d_PG_isOnWire_12 rfl k) ?_
  refine ST.lift (fun _ _ k => T_iconst (v := nI 3) d_PG_isOnWire_13 (by decide) k) ?_
  refine S_icmp_gtN d_PG_isOnWire_14 rfl (by omega) (by omega) (fun c => by first | exact absurd c (by omega) | exact c.elim | exact absurd c (by decide) | exact absurd (by assumption) c | exact absurd c (by assumption)) (fun _ => ?_)
  refine ST.lift (fun _ _ k => T_aload_n (v := .ref 61) d_PG_isOnWire_17 rfl (Or.inr ⟨_, rfl⟩) k) ?_
  refine S_getfield d_PG_isOnWire_18 fg_PG_34 (w61 _) rfl ?_
  refine ST.lift (fun _ _ k => T_iload_n d_PG_isOnWire_21 rfl k) ?_
  refine S_aaload (C0 := "PasswordGate$Session") d_PG_isOnWire_22 (by decide) (w264 _) rfl (vp_in_nI (by omega) (by omega)) ?_
  refine S_getfield d_PG_isOnWire_23 fg_PG_158 (w317 _) rfl ?_
  refine ST.lift (fun _ _ k => T_iload_n d_PG_isOnWire_26 rfl k) ?_
  refine ST.lift (fun _ _ k => T_iconst (v := nI 1) d_PG_isOnWire_27 (by decide) k) ?_
  refine S_isubN d_PG_isOnWire_28 (by omega) ?_
  refine S_topi (y := nI 2) (by decide) ?_
  refine S_aaload (C0 := "PasswordGate$Bytes") d_PG_isOnWire_29 (by decide) (w318 _) rfl (vp_in_nI (by omega) (by omega)) ?_
  refine ST.lift (fun _ _ k => T_iload_n d_PG_isOnWire_30 rfl k) ?_
  obtain ⟨k1, hk1, ek1⟩ := hv.get (j := 50) (c := 64) (by decide)
  refine S_virtual (as := [.int (nI i)]) (rest := []) (b := 335) d_PG_isOnWire_31 rfl (jw_By_has.jo (by decide)) lm_PG_119 ji_By_has js_By_has (w335 _) rfl rfl rfl (Nat.le_of_ble_eq_true rfl) (by decide) (by decide) (c_By_has_n G v 335 336 64 50 ⟨w335, a336, by decide, u335_1, by decide, by decide⟩ i (by omega) k1 ek1 (by omega) hv) (fun r u2 hq => ?_)
  obtain ⟨z5, hz5, hiz5, hr, hv3, hm4, fe0_u2⟩ := hq
  rw [hr]
  clear hr r
  have hm6 := hm.go hm4 (by intro i hi; simp only [List.mem_cons, List.not_mem_nil, or_false] at hi ⊢ <;> omega)
  have e7 : u2 50 = nI k1 := (hm4 50 (by decide)).trans ek1
  show ST G mi_PG_isOnWire 34 [(0, .ref 61), (1, .int (nI 2)), (2, .int (nI 3)), (3, .int (nI i))] [.int (nI z5)] u2 0 0 _
  refine S_if_eqN d_PG_isOnWire_34 rfl (by omega) (fun c8 => ?_) (fun c8 => ?_)
  · refine ST.lift (fun _ _ k => T_iconst (v := nI 0) d_PG_isOnWire_41 (by decide) k) ?_
    exact S_ret d_PG_isOnWire_42 rfl (nar_z (by omega)) (by decide) (by decide) (hQ 0 _ (by omega) (by omega) hv3 hm6)
  · refine ST.lift (fun _ _ k => T_iconst (v := nI 1) d_PG_isOnWire_37 (by decide) k) ?_
    refine ST.lift (fun _ _ k => T_goto (tgt := 42) d_PG_isOnWire_38 rfl k) ?_
    exact S_ret d_PG_isOnWire_42 rfl (nar_z (by omega)) (by decide) (by decide) (hQ 1 _ (by omega) (by omega) hv3 hm6)
set_option maxRecDepth 100000 in
set_option maxHeartbeats 4000000 in
theorem c_PG_tamper_2_3 (G : GX) (v : Nat → Int32) (i : Nat) (b_i : i < 2147483648) (mask : Int32) (hv : okv v) : CS G mi_PG_tamper [.ref 61, .int (nI 2), .int (nI 3), .int (nI i), .int mask] v (fun r v' => ∃ z : Nat, z ≤ 1 ∧ r = some (.int (nI z)) ∧ okv v' ∧ mdf [] v v') := by
  refine CS.of (by decide) (Nat.le_of_ble_eq_true rfl) ?_
  generalize hQe : (fun (r : Option Value) (v' : Nat → Int32) => ∃ z : Nat, z ≤ 1 ∧ r = some (.int (nI z)) ∧ okv v' ∧ mdf [] v v') = Q
  have hQ : ∀ (z : Nat) (u : Nat → Int32), z ≤ 1 → okv u → mdf [] v u → Q (some (.int (nI z))) u := by rw [← hQe]; exact fun z u hz h1 h2  => ⟨z, hz, rfl, h1, h2⟩
  clear hQe
  have hm : mdf [] v v := mdf.rf
  show ST G mi_PG_tamper 0 [(0, .ref 61), (1, .int (nI 2)), (2, .int (nI 3)), (3, .int (nI i)), (4, .int mask)] [] v 0 0 Q
  refine ST.lift (fun _ _ k => T_aload_n (v := .ref 61) d_PG_tamper_0 rfl (Or.inr ⟨_, rfl⟩) k) ?_
  refine ST.lift (fun _ _ k => T_iload_n d_PG_tamper_1 rfl k) ?_
  refine ST.lift (fun _ _ k => T_iload_n d_PG_tamper_2 rfl k) ?_
  refine ST.lift (fun _ _ k => T_iload_n d_PG_tamper_3 rfl k) ?_
  refine S_virtual (as := [.int (nI 2), .int (nI 3), .int (nI i)]) (rest := []) (b := 61) d_PG_tamper_4 rfl (jw_PG_isOnWire.jo (by decide)) lm_PG_154 ji_PG_isOnWire js_PG_isOnWire (w61 _) rfl rfl rfl (Nat.le_of_ble_eq_true rfl) (by decide) (by decide) (c_PG_isOnWire_2_3 G v i (by omega) hv) (fun r u1 hq => ?_)
  obtain ⟨z4, hz4, hiz4, hr, hv2, hm3⟩ := hq
  rw [hr]
  clear hr r
  have hm5 := hm.go hm3 (by intro i hi; simp only [List.mem_cons, List.not_mem_nil, or_false] at hi ⊢ <;> omega)
  show ST G mi_PG_tamper 7 [(0, .ref 61), (1, .int (nI 2)), (2, .int (nI 3)), (3, .int (nI i)), (4, .int mask)] [.int (nI z4)] u1 0 0 _
  refine S_if_neN d_PG_tamper_7 rfl (by omega) (fun c6 => ?_) (fun c6 => ?_)
  · refine ST.lift (fun _ _ k => T_aload_n (v := .ref 61) d_PG_tamper_12 rfl (Or.inr ⟨_, rfl⟩) k) ?_
    refine S_getfield d_PG_tamper_13 fg_PG_34 (w61 _) rfl ?_
    refine ST.lift (fun _ _ k => T_iload_n d_PG_tamper_16 rfl k) ?_
    refine S_aaload (C0 := "PasswordGate$Session") d_PG_tamper_17 (by decide) (w264 _) rfl (vp_in_nI (by omega) (by omega)) ?_
    refine S_getfield d_PG_tamper_18 fg_PG_158 (w317 _) rfl ?_
    refine ST.lift (fun _ _ k => T_iload_n d_PG_tamper_21 rfl k) ?_
    refine ST.lift (fun _ _ k => T_iconst (v := nI 1) d_PG_tamper_22 (by decide) k) ?_
    refine S_isubN d_PG_tamper_23 (by omega) ?_
    refine S_topi (y := nI 2) (by decide) ?_
    refine S_aaload (C0 := "PasswordGate$Bytes") d_PG_tamper_24 (by decide) (w318 _) rfl (vp_in_nI (by omega) (by omega)) ?_
    refine S_getfield d_PG_tamper_25 fg_PG_93 (w335 _) rfl ?_
    refine ST.lift (fun _ _ k => T_iload_n d_PG_tamper_28 rfl k) ?_
    refine ST.lift (fun _ _ k => T_dup2 d_PG_tamper_29 rfl rfl k) ?_
    refine S_baload d_PG_tamper_30 a336 (vp_in_nI (by omega) (by omega)) (fun z7 hz7 => ?_)
    refine ST.lift (fun _ _ k => T_iload d_PG_tamper_31 rfl k) ?_
    refine ST.lift (fun _ _ k => T_i2b d_PG_tamper_33 k) (S_anyi fun z8 => ?_)
    refine ST.lift (fun _ _ k => T_ixor d_PG_tamper_34 k) (S_anyi fun z9 => ?_)
    refine ST.lift (fun _ _ k => T_i2b d_PG_tamper_35 k) (S_anyi fun z10 => ?_)
    refine S_bastore d_PG_tamper_36 (by decide) a336 (vp_in_nI (by omega) (by omega)) ?_
    refine ST.lift (fun _ _ k => T_iconst (v := nI 1) d_PG_tamper_37 (by decide) k) ?_
    exact S_ret d_PG_tamper_38 rfl (nar_z (by omega)) (by decide) (by decide) (hQ 1 _ (by omega) hv2 hm5)
  · refine ST.lift (fun _ _ k => T_iconst (v := nI 0) d_PG_tamper_10 (by decide) k) ?_
    exact S_ret d_PG_tamper_11 rfl (nar_z (by omega)) (by decide) (by decide) (hQ 0 _ (by omega) hv2 hm5)
set_option maxRecDepth 100000 in
set_option maxHeartbeats 4000000 in
theorem c_PG_isOnWire_3_1 (G : GX) (v : Nat → Int32) (i : Nat) (b_i : i < 2147483648) (hv : okv v) : CS G mi_PG_isOnWire [.ref 61, .int (nI 3), .int (nI 1), .int (nI i)] v (fun r v' => ∃ z : Nat, z ≤ 1 ∧ (z = 1 → i < 96) ∧ r = some (.int (nI z)) ∧ okv v' ∧ mdf [] v v') := by
  refine CS.of (by decide) (Nat.le_of_ble_eq_true rfl) ?_
  generalize hQe : (fun (r : Option Value) (v' : Nat → Int32) => ∃ z : Nat, z ≤ 1 ∧ (z = 1 → i < 96) ∧ r = some (.int (nI z)) ∧ okv v' ∧ mdf [] v v') = Q
  have hQ : ∀ (z : Nat) (u : Nat → Int32), z ≤ 1 → (z = 1 → i < 96) → okv u → mdf [] v u → Q (some (.int (nI z))) u := by rw [← hQe]; exact fun z u hz hi h1 h2  => ⟨z, hz, hi, rfl, h1, h2⟩
  clear hQe
  have hm : mdf [] v v := mdf.rf
  show ST G mi_PG_isOnWire 0 [(0, .ref 61), (1, .int (nI 3)), (2, .int (nI 1)), (3, .int (nI i))] [] v 0 0 Q
  refine ST.lift (fun _ _ k => T_iload_n d_PG_isOnWire_0 rfl k) ?_
  refine S_static (as := [.int (nI 3)]) (rest := []) d_PG_isOnWire_1 rfl (jw_PG_isSession.jo (by decide)) lm_PG_133 jt_PG_isSession rfl (Nat.le_of_ble_eq_true rfl) (by decide) (by decide) (c_PG_isSession G v 3 (by omega)) (fun r v' hq => ?_)
  rw [hq.1, hq.2]
  clear hq r v'
  show ST G mi_PG_isOnWire 4 [(0, .ref 61), (1, .int (nI 3)), (2, .int (nI 1)), (3, .int (nI i))] [.int (nI 1)] v 0 0 _
  refine S_if_eqN d_PG_isOnWire_4 rfl (by omega) (fun c => by first | exact absurd c (by omega) | exact c.elim | exact absurd c (by decide) | exact absurd (by assumption) c | exact absurd c (by assumption)) (fun _ => ?_)
  refine ST.lift (fun _ _ k => T_iload_n d_PG_isOnWire_7 rfl k) ?_
  refine ST.lift (fun _ _ k => T_iconst (v := nI 1) d_PG_isOnWire_8 (by decide) k) ?_
  refine S_icmp_ltN d_PG_isOnWire_9 rfl (by omega) (by omega) (fun c => by first | exact absurd c (by omega) | exact c.elim | exact absurd c (by decide) | exact absurd (by assumption) c | exact absurd c (by assumption)) (fun _ => ?_)
  refine ST.lift (fun _ _ k => T_iload_n d_PG_isOnWire_12 rfl k) ?_
  refine ST.lift (fun _ _ k => T_iconst (v := nI 3) d_PG_isOnWire_13 (by decide) k) ?_
  refine S_icmp_gtN d_PG_isOnWire_14 rfl (by omega) (by omega) (fun c => by first | exact absurd c (by omega) | exact c.elim | exact absurd c (by decide) | exact absurd (by assumption) c | exact absurd c (by assumption)) (fun _ => ?_)
  refine ST.lift (fun _ _ k => T_aload_n (v := .ref 61) d_PG_isOnWire_17 rfl (Or.inr ⟨_, rfl⟩) k) ?_
  refine S_getfield d_PG_isOnWire_18 fg_PG_34 (w61 _) rfl ?_
  refine ST.lift (fun _ _ k => T_iload_n d_PG_isOnWire_21 rfl k) ?_
  refine S_aaload (C0 := "PasswordGate$Session") d_PG_isOnWire_22 (by decide) (w264 _) rfl (vp_in_nI (by omega) (by omega)) ?_
  refine S_getfield d_PG_isOnWire_23 fg_PG_158 (w343 _) rfl ?_
  refine ST.lift (fun _ _ k => T_iload_n d_PG_isOnWire_26 rfl k) ?_
  refine ST.lift (fun _ _ k => T_iconst (v := nI 1) d_PG_isOnWire_27 (by decide) k) ?_
  refine S_isubN d_PG_isOnWire_28 (by omega) ?_
  refine S_topi (y := nI 0) (by decide) ?_
  refine S_aaload (C0 := "PasswordGate$Bytes") d_PG_isOnWire_29 (by decide) (w344 _) rfl (vp_in_nI (by omega) (by omega)) ?_
  refine ST.lift (fun _ _ k => T_iload_n d_PG_isOnWire_30 rfl k) ?_
  obtain ⟨k1, hk1, ek1⟩ := hv.get (j := 58) (c := 96) (by decide)
  refine S_virtual (as := [.int (nI i)]) (rest := []) (b := 357) d_PG_isOnWire_31 rfl (jw_By_has.jo (by decide)) lm_PG_119 ji_By_has js_By_has (w357 _) rfl rfl rfl (Nat.le_of_ble_eq_true rfl) (by decide) (by decide) (c_By_has_n G v 357 358 96 58 ⟨w357, a358, by decide, u357_1, by decide, by decide⟩ i (by omega) k1 ek1 (by omega) hv) (fun r u2 hq => ?_)
  obtain ⟨z5, hz5, hiz5, hr, hv3, hm4, fe0_u2⟩ := hq
  rw [hr]
  clear hr r
  have hm6 := hm.go hm4 (by intro i hi; simp only [List.mem_cons, List.not_mem_nil, or_false] at hi ⊢ <;> omega)
  have e7 : u2 58 = nI k1 := (hm4 58 (by decide)).trans ek1
  show ST G mi_PG_isOnWire 34 [(0, .ref 61), (1, .int (nI 3)), (2, .int (nI 1)), (3, .int (nI i))] [.int (nI z5)] u2 0 0 _
  refine S_if_eqN d_PG_isOnWire_34 rfl (by omega) (fun c8 => ?_) (fun c8 => ?_)
  · refine ST.lift (fun _ _ k => T_iconst (v := nI 0) d_PG_isOnWire_41 (by decide) k) ?_
    exact S_ret d_PG_isOnWire_42 rfl (nar_z (by omega)) (by decide) (by decide) (hQ 0 _ (by omega) (by omega) hv3 hm6)
  · refine ST.lift (fun _ _ k => T_iconst (v := nI 1) d_PG_isOnWire_37 (by decide) k) ?_
    refine ST.lift (fun _ _ k => T_goto (tgt := 42) d_PG_isOnWire_38 rfl k) ?_
    exact S_ret d_PG_isOnWire_42 rfl (nar_z (by omega)) (by decide) (by decide) (hQ 1 _ (by omega) (by omega) hv3 hm6)
set_option maxRecDepth 100000 in
set_option maxHeartbeats 4000000 in
theorem c_PG_tamper_3_1 (G : GX) (v : Nat → Int32) (i : Nat) (b_i : i < 2147483648) (mask : Int32) (hv : okv v) : CS G mi_PG_tamper [.ref 61, .int (nI 3), .int (nI 1), .int (nI i), .int mask] v (fun r v' => ∃ z : Nat, z ≤ 1 ∧ r = some (.int (nI z)) ∧ okv v' ∧ mdf [] v v') := by
  refine CS.of (by decide) (Nat.le_of_ble_eq_true rfl) ?_
  generalize hQe : (fun (r : Option Value) (v' : Nat → Int32) => ∃ z : Nat, z ≤ 1 ∧ r = some (.int (nI z)) ∧ okv v' ∧ mdf [] v v') = Q
  have hQ : ∀ (z : Nat) (u : Nat → Int32), z ≤ 1 → okv u → mdf [] v u → Q (some (.int (nI z))) u := by rw [← hQe]; exact fun z u hz h1 h2  => ⟨z, hz, rfl, h1, h2⟩
  clear hQe
  have hm : mdf [] v v := mdf.rf
  show ST G mi_PG_tamper 0 [(0, .ref 61), (1, .int (nI 3)), (2, .int (nI 1)), (3, .int (nI i)), (4, .int mask)] [] v 0 0 Q
  refine ST.lift (fun _ _ k => T_aload_n (v := .ref 61) d_PG_tamper_0 rfl (Or.inr ⟨_, rfl⟩) k) ?_
  refine ST.lift (fun _ _ k => T_iload_n d_PG_tamper_1 rfl k) ?_
  refine ST.lift (fun _ _ k => T_iload_n d_PG_tamper_2 rfl k) ?_
  refine ST.lift (fun _ _ k => T_iload_n d_PG_tamper_3 rfl k) ?_
  refine S_virtual (as := [.int (nI 3), .int (nI 1), .int (nI i)]) (rest := []) (b := 61) d_PG_tamper_4 rfl (jw_PG_isOnWire.jo (by decide)) lm_PG_154 ji_PG_isOnWire js_PG_isOnWire (w61 _) rfl rfl rfl (Nat.le_of_ble_eq_true rfl) (by decide) (by decide) (c_PG_isOnWire_3_1 G v i (by omega) hv) (fun r u1 hq => ?_)
  obtain ⟨z4, hz4, hiz4, hr, hv2, hm3⟩ := hq
  rw [hr]
  clear hr r
  have hm5 := hm.go hm3 (by intro i hi; simp only [List.mem_cons, List.not_mem_nil, or_false] at hi ⊢ <;> omega)
  show ST G mi_PG_tamper 7 [(0, .ref 61), (1, .int (nI 3)), (2, .int (nI 1)), (3, .int (nI i)), (4, .int mask)] [.int (nI z4)] u1 0 0 _
  refine S_if_neN d_PG_tamper_7 rfl (by omega) (fun c6 => ?_) (fun c6 => ?_)
  · refine ST.lift (fun _ _ k => T_aload_n (v := .ref 61) d_PG_tamper_12 rfl (Or.inr ⟨_, rfl⟩) k) ?_
    refine S_getfield d_PG_tamper_13 fg_PG_34 (w61 _) rfl ?_
    refine ST.lift (fun _ _ k => T_iload_n d_PG_tamper_16 rfl k) ?_
    refine S_aaload (C0 := "PasswordGate$Session") d_PG_tamper_17 (by decide) (w264 _) rfl (vp_in_nI (by omega) (by omega)) ?_
    refine S_getfield d_PG_tamper_18 fg_PG_158 (w343 _) rfl ?_
    refine ST.lift (fun _ _ k => T_iload_n d_PG_tamper_21 rfl k) ?_
    refine ST.lift (fun _ _ k => T_iconst (v := nI 1) d_PG_tamper_22 (by decide) k) ?_
    refine S_isubN d_PG_tamper_23 (by omega) ?_
    refine S_topi (y := nI 0) (by decide) ?_
    refine S_aaload (C0 := "PasswordGate$Bytes") d_PG_tamper_24 (by decide) (w344 _) rfl (vp_in_nI (by omega) (by omega)) ?_
    refine S_getfield d_PG_tamper_25 fg_PG_93 (w357 _) rfl ?_
    refine ST.lift (fun _ _ k => T_iload_n d_PG_tamper_28 rfl k) ?_
    refine ST.lift (fun _ _ k => T_dup2 d_PG_tamper_29 rfl rfl k) ?_
    refine S_baload d_PG_tamper_30 a358 (vp_in_nI (by omega) (by omega)) (fun z7 hz7 => ?_)
    refine ST.lift (fun _ _ k => T_iload d_PG_tamper_31 rfl k) ?_
    refine ST.lift (fun _ _ k => T_i2b d_PG_tamper_33 k) (S_anyi fun z8 => ?_)
    refine ST.lift (fun _ _ k => T_ixor d_PG_tamper_34 k) (S_anyi fun z9 => ?_)
    refine ST.lift (fun _ _ k => T_i2b d_PG_tamper_35 k) (S_anyi fun z10 => ?_)
    refine S_bastore d_PG_tamper_36 (by decide) a358 (vp_in_nI (by omega) (by omega)) ?_
    refine ST.lift (fun _ _ k => T_iconst (v := nI 1) d_PG_tamper_37 (by decide) k) ?_
    exact S_ret d_PG_tamper_38 rfl (nar_z (by omega)) (by decide) (by decide) (hQ 1 _ (by omega) hv2 hm5)
  · refine ST.lift (fun _ _ k => T_iconst (v := nI 0) d_PG_tamper_10 (by decide) k) ?_
    exact S_ret d_PG_tamper_11 rfl (nar_z (by omega)) (by decide) (by decide) (hQ 0 _ (by omega) hv2 hm5)
set_option maxRecDepth 100000 in
set_option maxHeartbeats 4000000 in
theorem c_PG_isOnWire_3_2 (G : GX) (v : Nat → Int32) (i : Nat) (b_i : i < 2147483648) (hv : okv v) : CS G mi_PG_isOnWire [.ref 61, .int (nI 3), .int (nI 2), .int (nI i)] v (fun r v' => ∃ z : Nat, z ≤ 1 ∧ (z = 1 → i < 320) ∧ r = some (.int (nI z)) ∧ okv v' ∧ mdf [] v v') := by
  refine CS.of (by decide) (Nat.le_of_ble_eq_true rfl) ?_
  generalize hQe : (fun (r : Option Value) (v' : Nat → Int32) => ∃ z : Nat, z ≤ 1 ∧ (z = 1 → i < 320) ∧ r = some (.int (nI z)) ∧ okv v' ∧ mdf [] v v') = Q
  have hQ : ∀ (z : Nat) (u : Nat → Int32), z ≤ 1 → (z = 1 → i < 320) → okv u → mdf [] v u → Q (some (.int (nI z))) u := by rw [← hQe]; exact fun z u hz hi h1 h2  => ⟨z, hz, hi, rfl, h1, h2⟩
  clear hQe
  have hm : mdf [] v v := mdf.rf
  show ST G mi_PG_isOnWire 0 [(0, .ref 61), (1, .int (nI 3)), (2, .int (nI 2)), (3, .int (nI i))] [] v 0 0 Q
  refine ST.lift (fun _ _ k => T_iload_n d_PG_isOnWire_0 rfl k) ?_
  refine S_static (as := [.int (nI 3)]) (rest := []) d_PG_isOnWire_1 rfl (jw_PG_isSession.jo (by decide)) lm_PG_133 jt_PG_isSession rfl (Nat.le_of_ble_eq_true rfl) (by decide) (by decide) (c_PG_isSession G v 3 (by omega)) (fun r v' hq => ?_)
  rw [hq.1, hq.2]
  clear hq r v'
  show ST G mi_PG_isOnWire 4 [(0, .ref 61), (1, .int (nI 3)), (2, .int (nI 2)), (3, .int (nI i))] [.int (nI 1)] v 0 0 _
  refine S_if_eqN d_PG_isOnWire_4 rfl (by omega) (fun c => by first | exact absurd c (by omega) | exact c.elim | exact absurd c (by decide) | exact absurd (by assumption) c | exact absurd c (by assumption)) (fun _ => ?_)
  refine ST.lift (fun _ _ k => T_iload_n d_PG_isOnWire_7 rfl k) ?_
  refine ST.lift (fun _ _ k => T_iconst (v := nI 1) d_PG_isOnWire_8 (by decide) k) ?_
  refine S_icmp_ltN d_PG_isOnWire_9 rfl (by omega) (by omega) (fun c => by first | exact absurd c (by omega) | exact c.elim | exact absurd c (by decide) | exact absurd (by assumption) c | exact absurd c (by assumption)) (fun _ => ?_)
  refine ST.lift (fun _ _ k => T_iload_n d_PG_isOnWire_12 rfl k) ?_
  refine ST.lift (fun _ _ k => T_iconst (v := nI 3) d_PG_isOnWire_13 (by decide) k) ?_
  refine S_icmp_gtN d_PG_isOnWire_14 rfl (by omega) (by omega) (fun c => by first | exact absurd c (by omega) | exact c.elim | exact absurd c (by decide) | exact absurd (by assumption) c | exact absurd c (by assumption)) (fun _ => ?_)
  refine ST.lift (fun _ _ k => T_aload_n (v := .ref 61) d_PG_isOnWire_17 rfl (Or.inr ⟨_, rfl⟩) k) ?_
  refine S_getfield d_PG_isOnWire_18 fg_PG_34 (w61 _) rfl ?_
  refine ST.lift (fun _ _ k => T_iload_n d_PG_isOnWire_21 rfl k) ?_
  refine S_aaload (C0 := "PasswordGate$Session") d_PG_isOnWire_22 (by decide) (w264 _) rfl (vp_in_nI (by omega) (by omega)) ?_
  refine S_getfield d_PG_isOnWire_23 fg_PG_158 (w343 _) rfl ?_
  refine ST.lift (fun _ _ k => T_iload_n d_PG_isOnWire_26 rfl k) ?_
  refine ST.lift (fun _ _ k => T_iconst (v := nI 1) d_PG_isOnWire_27 (by decide) k) ?_
  refine S_isubN d_PG_isOnWire_28 (by omega) ?_
  refine S_topi (y := nI 1) (by decide) ?_
  refine S_aaload (C0 := "PasswordGate$Bytes") d_PG_isOnWire_29 (by decide) (w344 _) rfl (vp_in_nI (by omega) (by omega)) ?_
  refine ST.lift (fun _ _ k => T_iload_n d_PG_isOnWire_30 rfl k) ?_
  obtain ⟨k1, hk1, ek1⟩ := hv.get (j := 59) (c := 320) (by decide)
  refine S_virtual (as := [.int (nI i)]) (rest := []) (b := 359) d_PG_isOnWire_31 rfl (jw_By_has.jo (by decide)) lm_PG_119 ji_By_has js_By_has (w359 _) rfl rfl rfl (Nat.le_of_ble_eq_true rfl) (by decide) (by decide) (c_By_has_n G v 359 360 320 59 ⟨w359, a360, by decide, u359_1, by decide, by decide⟩ i (by omega) k1 ek1 (by omega) hv) (fun r u2 hq => ?_)
  obtain ⟨z5, hz5, hiz5, hr, hv3, hm4, fe0_u2⟩ := hq
  rw [hr]
  clear hr r
  have hm6 := hm.go hm4 (by intro i hi; simp only [List.mem_cons, List.not_mem_nil, or_false] at hi ⊢ <;> omega)
  have e7 : u2 59 = nI k1 := (hm4 59 (by decide)).trans ek1
  show ST G mi_PG_isOnWire 34 [(0, .ref 61), (1, .int (nI 3)), (2, .int (nI 2)), (3, .int (nI i))] [.int (nI z5)] u2 0 0 _
  refine S_if_eqN d_PG_isOnWire_34 rfl (by omega) (fun c8 => ?_) (fun c8 => ?_)
  · refine ST.lift (fun _ _ k => T_iconst (v := nI 0) d_PG_isOnWire_41 (by decide) k) ?_
    exact S_ret d_PG_isOnWire_42 rfl (nar_z (by omega)) (by decide) (by decide) (hQ 0 _ (by omega) (by omega) hv3 hm6)
  · refine ST.lift (fun _ _ k => T_iconst (v := nI 1) d_PG_isOnWire_37 (by decide) k) ?_
    refine ST.lift (fun _ _ k => T_goto (tgt := 42) d_PG_isOnWire_38 rfl k) ?_
    exact S_ret d_PG_isOnWire_42 rfl (nar_z (by omega)) (by decide) (by decide) (hQ 1 _ (by omega) (by omega) hv3 hm6)
set_option maxRecDepth 100000 in
set_option maxHeartbeats 4000000 in
theorem c_PG_tamper_3_2 (G : GX) (v : Nat → Int32) (i : Nat) (b_i : i < 2147483648) (mask : Int32) (hv : okv v) : CS G mi_PG_tamper [.ref 61, .int (nI 3), .int (nI 2), .int (nI i), .int mask] v (fun r v' => ∃ z : Nat, z ≤ 1 ∧ r = some (.int (nI z)) ∧ okv v' ∧ mdf [] v v') := by
  refine CS.of (by decide) (Nat.le_of_ble_eq_true rfl) ?_
  generalize hQe : (fun (r : Option Value) (v' : Nat → Int32) => ∃ z : Nat, z ≤ 1 ∧ r = some (.int (nI z)) ∧ okv v' ∧ mdf [] v v') = Q
  have hQ : ∀ (z : Nat) (u : Nat → Int32), z ≤ 1 → okv u → mdf [] v u → Q (some (.int (nI z))) u := by rw [← hQe]; exact fun z u hz h1 h2  => ⟨z, hz, rfl, h1, h2⟩
  clear hQe
  have hm : mdf [] v v := mdf.rf
  show ST G mi_PG_tamper 0 [(0, .ref 61), (1, .int (nI 3)), (2, .int (nI 2)), (3, .int (nI i)), (4, .int mask)] [] v 0 0 Q
  refine ST.lift (fun _ _ k => T_aload_n (v := .ref 61) d_PG_tamper_0 rfl (Or.inr ⟨_, rfl⟩) k) ?_
  refine ST.lift (fun _ _ k => T_iload_n d_PG_tamper_1 rfl k) ?_
  refine ST.lift (fun _ _ k => T_iload_n d_PG_tamper_2 rfl k) ?_
  refine ST.lift (fun _ _ k => T_iload_n d_PG_tamper_3 rfl k) ?_
  refine S_virtual (as := [.int (nI 3), .int (nI 2), .int (nI i)]) (rest := []) (b := 61) d_PG_tamper_4 rfl (jw_PG_isOnWire.jo (by decide)) lm_PG_154 ji_PG_isOnWire js_PG_isOnWire (w61 _) rfl rfl rfl (Nat.le_of_ble_eq_true rfl) (by decide) (by decide) (c_PG_isOnWire_3_2 G v i (by omega) hv) (fun r u1 hq => ?_)
  obtain ⟨z4, hz4, hiz4, hr, hv2, hm3⟩ := hq
  rw [hr]
  clear hr r
  have hm5 := hm.go hm3 (by intro i hi; simp only [List.mem_cons, List.not_mem_nil, or_false] at hi ⊢ <;> omega)
  show ST G mi_PG_tamper 7 [(0, .ref 61), (1, .int (nI 3)), (2, .int (nI 2)), (3, .int (nI i)), (4, .int mask)] [.int (nI z4)] u1 0 0 _
  refine S_if_neN d_PG_tamper_7 rfl (by omega) (fun c6 => ?_) (fun c6 => ?_)
  · refine ST.lift (fun _ _ k => T_aload_n (v := .ref 61) d_PG_tamper_12 rfl (Or.inr ⟨_, rfl⟩) k) ?_
    refine S_getfield d_PG_tamper_13 fg_PG_34 (w61 _) rfl ?_
    refine ST.lift (fun _ _ k => T_iload_n d_PG_tamper_16 rfl k) ?_
    refine S_aaload (C0 := "PasswordGate$Session") d_PG_tamper_17 (by decide) (w264 _) rfl (vp_in_nI (by omega) (by omega)) ?_
    refine S_getfield d_PG_tamper_18 fg_PG_158 (w343 _) rfl ?_
    refine ST.lift (fun _ _ k => T_iload_n d_PG_tamper_21 rfl k) ?_
    refine ST.lift (fun _ _ k => T_iconst (v := nI 1) d_PG_tamper_22 (by decide) k) ?_
    refine S_isubN d_PG_tamper_23 (by omega) ?_
    refine S_topi (y := nI 1) (by decide) ?_
    refine S_aaload (C0 := "PasswordGate$Bytes") d_PG_tamper_24 (by decide) (w344 _) rfl (vp_in_nI (by omega) (by omega)) ?_
    refine S_getfield d_PG_tamper_25 fg_PG_93 (w359 _) rfl ?_
    refine ST.lift (fun _ _ k => T_iload_n d_PG_tamper_28 rfl k) ?_
    refine ST.lift (fun _ _ k => T_dup2 d_PG_tamper_29 rfl rfl k) ?_
    refine S_baload d_PG_tamper_30 a360 (vp_in_nI (by omega) (by omega)) (fun z7 hz7 => ?_)
    refine ST.lift (fun _ _ k => T_iload d_PG_tamper_31 rfl k) ?_
    refine ST.lift (fun _ _ k => T_i2b d_PG_tamper_33 k) (S_anyi fun z8 => ?_)
    refine ST.lift (fun _ _ k => T_ixor d_PG_tamper_34 k) (S_anyi fun z9 => ?_)
    refine ST.lift (fun _ _ k => T_i2b d_PG_tamper_35 k) (S_anyi fun z10 => ?_)
    refine S_bastore d_PG_tamper_36 (by decide) a360 (vp_in_nI (by omega) (by omega)) ?_
    refine ST.lift (fun _ _ k => T_iconst (v := nI 1) d_PG_tamper_37 (by decide) k) ?_
    exact S_ret d_PG_tamper_38 rfl (nar_z (by omega)) (by decide) (by decide) (hQ 1 _ (by omega) hv2 hm5)
  · refine ST.lift (fun _ _ k => T_iconst (v := nI 0) d_PG_tamper_10 (by decide) k) ?_
    exact S_ret d_PG_tamper_11 rfl (nar_z (by omega)) (by decide) (by decide) (hQ 0 _ (by omega) hv2 hm5)
set_option maxRecDepth 100000 in
set_option maxHeartbeats 4000000 in
theorem c_PG_isOnWire_3_3 (G : GX) (v : Nat → Int32) (i : Nat) (b_i : i < 2147483648) (hv : okv v) : CS G mi_PG_isOnWire [.ref 61, .int (nI 3), .int (nI 3), .int (nI i)] v (fun r v' => ∃ z : Nat, z ≤ 1 ∧ (z = 1 → i < 64) ∧ r = some (.int (nI z)) ∧ okv v' ∧ mdf [] v v') := by
  refine CS.of (by decide) (Nat.le_of_ble_eq_true rfl) ?_
  generalize hQe : (fun (r : Option Value) (v' : Nat → Int32) => ∃ z : Nat, z ≤ 1 ∧ (z = 1 → i < 64) ∧ r = some (.int (nI z)) ∧ okv v' ∧ mdf [] v v') = Q
  have hQ : ∀ (z : Nat) (u : Nat → Int32), z ≤ 1 → (z = 1 → i < 64) → okv u → mdf [] v u → Q (some (.int (nI z))) u := by rw [← hQe]; exact fun z u hz hi h1 h2  => ⟨z, hz, hi, rfl, h1, h2⟩
  clear hQe
  have hm : mdf [] v v := mdf.rf
  show ST G mi_PG_isOnWire 0 [(0, .ref 61), (1, .int (nI 3)), (2, .int (nI 3)), (3, .int (nI i))] [] v 0 0 Q
  refine ST.lift (fun _ _ k => T_iload_n d_PG_isOnWire_0 rfl k) ?_
  refine S_static (as := [.int (nI 3)]) (rest := []) d_PG_isOnWire_1 rfl (jw_PG_isSession.jo (by decide)) lm_PG_133 jt_PG_isSession rfl (Nat.le_of_ble_eq_true rfl) (by decide) (by decide) (c_PG_isSession G v 3 (by omega)) (fun r v' hq => ?_)
  rw [hq.1, hq.2]
  clear hq r v'
  show ST G mi_PG_isOnWire 4 [(0, .ref 61), (1, .int (nI 3)), (2, .int (nI 3)), (3, .int (nI i))] [.int (nI 1)] v 0 0 _
  refine S_if_eqN d_PG_isOnWire_4 rfl (by omega) (fun c => by first | exact absurd c (by omega) | exact c.elim | exact absurd c (by decide) | exact absurd (by assumption) c | exact absurd c (by assumption)) (fun _ => ?_)
  refine ST.lift (fun _ _ k => T_iload_n d_PG_isOnWire_7 rfl k) ?_
  refine ST.lift (fun _ _ k => T_iconst (v := nI 1) d_PG_isOnWire_8 (by decide) k) ?_
  refine S_icmp_ltN d_PG_isOnWire_9 rfl (by omega) (by omega) (fun c => by first | exact absurd c (by omega) | exact c.elim | exact absurd c (by decide) | exact absurd (by assumption) c | exact absurd c (by assumption)) (fun _ => ?_)
  refine ST.lift (fun _ _ k => T_iload_n d_PG_isOnWire_12 rfl k) ?_
  refine ST.lift (fun _ _ k => T_iconst (v := nI 3) d_PG_isOnWire_13 (by decide) k) ?_
  refine S_icmp_gtN d_PG_isOnWire_14 rfl (by omega) (by omega) (fun c => by first | exact absurd c (by omega) | exact c.elim | exact absurd c (by decide) | exact absurd (by assumption) c | exact absurd c (by assumption)) (fun _ => ?_)
  refine ST.lift (fun _ _ k => T_aload_n (v := .ref 61) d_PG_isOnWire_17 rfl (Or.inr ⟨_, rfl⟩) k) ?_
  refine S_getfield d_PG_isOnWire_18 fg_PG_34 (w61 _) rfl ?_
  refine ST.lift (fun _ _ k => T_iload_n d_PG_isOnWire_21 rfl k) ?_
  refine S_aaload (C0 := "PasswordGate$Session") d_PG_isOnWire_22 (by decide) (w264 _) rfl (vp_in_nI (by omega) (by omega)) ?_
  refine S_getfield d_PG_isOnWire_23 fg_PG_158 (w343 _) rfl ?_
  refine ST.lift (fun _ _ k => T_iload_n d_PG_isOnWire_26 rfl k) ?_
  refine ST.lift (fun _ _ k => T_iconst (v := nI 1) d_PG_isOnWire_27 (by decide) k) ?_
  refine S_isubN d_PG_isOnWire_28 (by omega) ?_
  refine S_topi (y := nI 2) (by decide) ?_
  refine S_aaload (C0 := "PasswordGate$Bytes") d_PG_isOnWire_29 (by decide) (w344 _) rfl (vp_in_nI (by omega) (by omega)) ?_
  refine ST.lift (fun _ _ k => T_iload_n d_PG_isOnWire_30 rfl k) ?_
  obtain ⟨k1, hk1, ek1⟩ := hv.get (j := 60) (c := 64) (by decide)
  refine S_virtual (as := [.int (nI i)]) (rest := []) (b := 361) d_PG_isOnWire_31 rfl (jw_By_has.jo (by decide)) lm_PG_119 ji_By_has js_By_has (w361 _) rfl rfl rfl (Nat.le_of_ble_eq_true rfl) (by decide) (by decide) (c_By_has_n G v 361 362 64 60 ⟨w361, a362, by decide, u361_1, by decide, by decide⟩ i (by omega) k1 ek1 (by omega) hv) (fun r u2 hq => ?_)
  obtain ⟨z5, hz5, hiz5, hr, hv3, hm4, fe0_u2⟩ := hq
  rw [hr]
  clear hr r
  have hm6 := hm.go hm4 (by intro i hi; simp only [List.mem_cons, List.not_mem_nil, or_false] at hi ⊢ <;> omega)
  have e7 : u2 60 = nI k1 := (hm4 60 (by decide)).trans ek1
  show ST G mi_PG_isOnWire 34 [(0, .ref 61), (1, .int (nI 3)), (2, .int (nI 3)), (3, .int (nI i))] [.int (nI z5)] u2 0 0 _
  refine S_if_eqN d_PG_isOnWire_34 rfl (by omega) (fun c8 => ?_) (fun c8 => ?_)
  · refine ST.lift (fun _ _ k => T_iconst (v := nI 0) d_PG_isOnWire_41 (by decide) k) ?_
    exact S_ret d_PG_isOnWire_42 rfl (nar_z (by omega)) (by decide) (by decide) (hQ 0 _ (by omega) (by omega) hv3 hm6)
  · refine ST.lift (fun _ _ k => T_iconst (v := nI 1) d_PG_isOnWire_37 (by decide) k) ?_
    refine ST.lift (fun _ _ k => T_goto (tgt := 42) d_PG_isOnWire_38 rfl k) ?_
    exact S_ret d_PG_isOnWire_42 rfl (nar_z (by omega)) (by decide) (by decide) (hQ 1 _ (by omega) (by omega) hv3 hm6)
set_option maxRecDepth 100000 in
set_option maxHeartbeats 4000000 in
theorem c_PG_tamper_3_3 (G : GX) (v : Nat → Int32) (i : Nat) (b_i : i < 2147483648) (mask : Int32) (hv : okv v) : CS G mi_PG_tamper [.ref 61, .int (nI 3), .int (nI 3), .int (nI i), .int mask] v (fun r v' => ∃ z : Nat, z ≤ 1 ∧ r = some (.int (nI z)) ∧ okv v' ∧ mdf [] v v') := by
  refine CS.of (by decide) (Nat.le_of_ble_eq_true rfl) ?_
  generalize hQe : (fun (r : Option Value) (v' : Nat → Int32) => ∃ z : Nat, z ≤ 1 ∧ r = some (.int (nI z)) ∧ okv v' ∧ mdf [] v v') = Q
  have hQ : ∀ (z : Nat) (u : Nat → Int32), z ≤ 1 → okv u → mdf [] v u → Q (some (.int (nI z))) u := by rw [← hQe]; exact fun z u hz h1 h2  => ⟨z, hz, rfl, h1, h2⟩
  clear hQe
  have hm : mdf [] v v := mdf.rf
  show ST G mi_PG_tamper 0 [(0, .ref 61), (1, .int (nI 3)), (2, .int (nI 3)), (3, .int (nI i)), (4, .int mask)] [] v 0 0 Q
  refine ST.lift (fun _ _ k => T_aload_n (v := .ref 61) d_PG_tamper_0 rfl (Or.inr ⟨_, rfl⟩) k) ?_
  refine ST.lift (fun _ _ k => T_iload_n d_PG_tamper_1 rfl k) ?_
  refine ST.lift (fun _ _ k => T_iload_n d_PG_tamper_2 rfl k) ?_
  refine ST.lift (fun _ _ k => T_iload_n d_PG_tamper_3 rfl k) ?_
  refine S_virtual (as := [.int (nI 3), .int (nI 3), .int (nI i)]) (rest := []) (b := 61) d_PG_tamper_4 rfl (jw_PG_isOnWire.jo (by decide)) lm_PG_154 ji_PG_isOnWire js_PG_isOnWire (w61 _) rfl rfl rfl (Nat.le_of_ble_eq_true rfl) (by decide) (by decide) (c_PG_isOnWire_3_3 G v i (by omega) hv) (fun r u1 hq => ?_)
  obtain ⟨z4, hz4, hiz4, hr, hv2, hm3⟩ := hq
  rw [hr]
  clear hr r
  have hm5 := hm.go hm3 (by intro i hi; simp only [List.mem_cons, List.not_mem_nil, or_false] at hi ⊢ <;> omega)
  show ST G mi_PG_tamper 7 [(0, .ref 61), (1, .int (nI 3)), (2, .int (nI 3)), (3, .int (nI i)), (4, .int mask)] [.int (nI z4)] u1 0 0 _
  refine S_if_neN d_PG_tamper_7 rfl (by omega) (fun c6 => ?_) (fun c6 => ?_)
  · refine ST.lift (fun _ _ k => T_aload_n (v := .ref 61) d_PG_tamper_12 rfl (Or.inr ⟨_, rfl⟩) k) ?_
    refine S_getfield d_PG_tamper_13 fg_PG_34 (w61 _) rfl ?_
    refine ST.lift (fun _ _ k => T_iload_n d_PG_tamper_16 rfl k) ?_
    refine S_aaload (C0 := "PasswordGate$Session") d_PG_tamper_17 (by decide) (w264 _) rfl (vp_in_nI (by omega) (by omega)) ?_
    refine S_getfield d_PG_tamper_18 fg_PG_158 (w343 _) rfl ?_
    refine ST.lift (fun _ _ k => T_iload_n d_PG_tamper_21 rfl k) ?_
    refine ST.lift (fun _ _ k => T_iconst (v := nI 1) d_PG_tamper_22 (by decide) k) ?_
    refine S_isubN d_PG_tamper_23 (by omega) ?_
    refine S_topi (y := nI 2) (by decide) ?_
    refine S_aaload (C0 := "PasswordGate$Bytes") d_PG_tamper_24 (by decide) (w344 _) rfl (vp_in_nI (by omega) (by omega)) ?_
    refine S_getfield d_PG_tamper_25 fg_PG_93 (w361 _) rfl ?_
    refine ST.lift (fun _ _ k => T_iload_n d_PG_tamper_28 rfl k) ?_
    refine ST.lift (fun _ _ k => T_dup2 d_PG_tamper_29 rfl rfl k) ?_
    refine S_baload d_PG_tamper_30 a362 (vp_in_nI (by omega) (by omega)) (fun z7 hz7 => ?_)
    refine ST.lift (fun _ _ k => T_iload d_PG_tamper_31 rfl k) ?_
    refine ST.lift (fun _ _ k => T_i2b d_PG_tamper_33 k) (S_anyi fun z8 => ?_)
    refine ST.lift (fun _ _ k => T_ixor d_PG_tamper_34 k) (S_anyi fun z9 => ?_)
    refine ST.lift (fun _ _ k => T_i2b d_PG_tamper_35 k) (S_anyi fun z10 => ?_)
    refine S_bastore d_PG_tamper_36 (by decide) a362 (vp_in_nI (by omega) (by omega)) ?_
    refine ST.lift (fun _ _ k => T_iconst (v := nI 1) d_PG_tamper_37 (by decide) k) ?_
    exact S_ret d_PG_tamper_38 rfl (nar_z (by omega)) (by decide) (by decide) (hQ 1 _ (by omega) hv2 hm5)
  · refine ST.lift (fun _ _ k => T_iconst (v := nI 0) d_PG_tamper_10 (by decide) k) ?_
    exact S_ret d_PG_tamper_11 rfl (nar_z (by omega)) (by decide) (by decide) (hQ 0 _ (by omega) hv2 hm5)

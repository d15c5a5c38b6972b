set_option maxRecDepth 100000 in
set_option maxHeartbeats 4000000 in
theorem c_Mo_result_in (G : GX) (v : Nat → Int32) (i : Nat) (b_i : i < 2147483648) (q : Nat) (e74 : v 74 = nI q) (hi : i < q ∧ q ≤ 64) (hv : okv v) : CS G mi_Mo_result [.ref 373, .int (nI i)] v (fun r v' => ∃ z : Int32, r = some (.int z) ∧ okv v' ∧ mdf [66] v v' ∧ v' 74 = nI q ∧ v' 66 = nI 0) := by
  refine CS.of (by decide) (Nat.le_of_ble_eq_true rfl) ?_
  generalize hQe : (fun (r : Option Value) (v' : Nat → Int32) => ∃ z : Int32, r = some (.int z) ∧ okv v' ∧ mdf [66] v v' ∧ v' 74 = nI q ∧ v' 66 = nI 0) = Q
  have hQ : ∀ (z : Int32) (u : Nat → Int32), okv u → mdf [66] v u → u 74 = nI q → u 66 = nI 0 → Q (some (.int z)) u := by rw [← hQe]; exact fun z u h1 h2 f0 f1 => ⟨z, rfl, h1, h2, f0, f1⟩
  clear hQe
  have hm : mdf [66] v v := mdf.rf
  show ST G mi_Mo_result 0 [(0, .ref 373), (1, .int (nI i))] [] v 0 0 Q
  refine ST.lift (fun _ _ k => T_aload_n (v := .ref 373) d_Mo_result_0 rfl (Or.inr ⟨_, rfl⟩) k) ?_
  refine ST.lift (fun _ _ k => T_iconst (v := nI 0) d_Mo_result_1 (by decide) k) ?_
  refine S_putfield (v' := va_up v 66 (nI 0)) d_Mo_result_2 (fp_Mo_316 _) (w373 _) (Nat.le_of_ble_eq_true rfl) ⟨rfl, rfl⟩ (u373_0 _ _) ?_
  have hv2 := hv.off (j := 66) (x := (nI 0)) (by decide)
  have hm3 := hm.go (mdf.up (v := v) (j := 66) (x := (nI 0))) (by intro i hi; simp only [List.mem_cons, List.not_mem_nil, or_false] at hi ⊢ <;> omega)
  have e_u1 : (va_up v 66 (nI 0)) 66 = (nI 0) := by simp [va_up]
  have e4 : (va_up v 66 (nI 0)) 74 = nI q := by simp only [va_up]; exact e74
  generalize va_up v 66 (nI 0) = u1 at hv2 hm3 e_u1 e4 ⊢
  refine ST.lift (fun _ _ k => T_iload_n d_Mo_result_5 rfl k) ?_
  refine S_if_ltN d_Mo_result_6 rfl (by omega) (fun c => by first | exact absurd c (by omega) | exact c.elim | exact absurd c (by decide) | exact absurd (by assumption) c | exact absurd c (by assumption)) (fun _ => ?_)
  refine ST.lift (fun _ _ k => T_iload_n d_Mo_result_9 rfl k) ?_
  refine ST.lift (fun _ _ k => T_aload_n (v := .ref 373) d_Mo_result_10 rfl (Or.inr ⟨_, rfl⟩) k) ?_
  refine S_getfield d_Mo_result_11 fg_Mo_350 (w373 _) rfl ?_
  refine S_topi (y := nI q) (e4) ?_
  refine S_icmp_ltN d_Mo_result_14 rfl (by omega) (by omega) (fun _ => ?_) (fun c => by first | exact absurd c (by omega) | exact c.elim | exact absurd c (by decide) | exact absurd (by assumption) c | exact absurd c (by assumption))
  refine ST.lift (fun _ _ k => T_aload_n (v := .ref 373) d_Mo_result_24 rfl (Or.inr ⟨_, rfl⟩) k) ?_
  refine S_getfield d_Mo_result_25 fg_Mo_347 (w373 _) rfl ?_
  refine ST.lift (fun _ _ k => T_iload_n d_Mo_result_28 rfl k) ?_
  refine S_iaload d_Mo_result_29 a410 (vp_in_nI (by omega) (by omega)) (fun z5 => ?_)
  exact S_ret d_Mo_result_30 rfl rfl (by decide) (by decide) (hQ _ _ hv2 hm3 (e4.trans (congrArg nI (by omega))) (e_u1.trans (congrArg nI (by omega))))
set_option maxRecDepth 100000 in
set_option maxHeartbeats 4000000 in
theorem c_Mo_result_out (G : GX) (v : Nat → Int32) (i : Nat) (b_i : i < 2147483648) (q : Nat) (e74 : v 74 = nI q) (hi : q ≤ i ∧ q ≤ 64) (hv : okv v) : CS G mi_Mo_result [.ref 373, .int (nI i)] v (fun r v' => r = some (.int (nI 0)) ∧ okv v' ∧ mdf [66] v v' ∧ v' 74 = nI q ∧ v' 66 = nI 1) := by
  refine CS.of (by decide) (Nat.le_of_ble_eq_true rfl) ?_
  generalize hQe : (fun (r : Option Value) (v' : Nat → Int32) => r = some (.int (nI 0)) ∧ okv v' ∧ mdf [66] v v' ∧ v' 74 = nI q ∧ v' 66 = nI 1) = Q
  have hQ : ∀ u, okv u → mdf [66] v u → u 74 = nI q → u 66 = nI 1 → Q (some (.int (nI 0))) u := by rw [← hQe]; exact fun u h1 h2 f0 f1 => ⟨rfl, h1, h2, f0, f1⟩
  clear hQe
  have hm : mdf [66] v v := mdf.rf
  show ST G mi_Mo_result 0 [(0, .ref 373), (1, .int (nI i))] [] v 0 0 Q
  refine ST.lift (fun _ _ k => T_aload_n (v := .ref 373) d_Mo_result_0 rfl (Or.inr ⟨_, rfl⟩) k) ?_
  refine ST.lift (fun _ _ k => T_iconst (v := nI 0) d_Mo_result_1 (by decide) k) ?_
  refine S_putfield (v' := va_up v 66 (nI 0)) d_Mo_result_2 (fp_Mo_316 _) (w373 _) (Nat.le_of_ble_eq_true rfl) ⟨rfl, rfl⟩ (u373_0 _ _) ?_
  have hv2 := hv.off (j := 66) (x := (nI 0)) (by decide)
  have hm3 := hm.go (mdf.up (v := v) (j := 66) (x := (nI 0))) (by intro i hi; simp only [List.mem_cons, List.not_mem_nil, or_false] at hi ⊢ <;> omega)
  have e_u1 : (va_up v 66 (nI 0)) 66 = (nI 0) := by simp [va_up]
  have e4 : (va_up v 66 (nI 0)) 74 = nI q := by simp only [va_up]; exact e74
  generalize va_up v 66 (nI 0) = u1 at hv2 hm3 e_u1 e4 ⊢
  refine ST.lift (fun _ _ k => T_iload_n d_Mo_result_5 rfl k) ?_
  refine S_if_ltN d_Mo_result_6 rfl (by omega) (fun c => by first | exact absurd c (by omega) | exact c.elim | exact absurd c (by decide) | exact absurd (by assumption) c | exact absurd c (by assumption)) (fun _ => ?_)
  refine ST.lift (fun _ _ k => T_iload_n d_Mo_result_9 rfl k) ?_
  refine ST.lift (fun _ _ k => T_aload_n (v := .ref 373) d_Mo_result_10 rfl (Or.inr ⟨_, rfl⟩) k) ?_
  refine S_getfield d_Mo_result_11 fg_Mo_350 (w373 _) rfl ?_
  refine S_topi (y := nI q) (e4) ?_
  refine S_icmp_ltN d_Mo_result_14 rfl (by omega) (by omega) (fun c => by first | exact absurd c (by omega) | exact c.elim | exact absurd c (by decide) | exact absurd (by assumption) c | exact absurd c (by assumption)) (fun _ => ?_)
  refine ST.lift (fun _ _ k => T_aload_n (v := .ref 373) d_Mo_result_17 rfl (Or.inr ⟨_, rfl⟩) k) ?_
  refine ST.lift (fun _ _ k => T_iconst (v := nI 1) d_Mo_result_18 (by decide) k) ?_
  refine S_putfield (v' := va_up u1 66 (nI 1)) d_Mo_result_19 (fp_Mo_316 _) (w373 _) (Nat.le_of_ble_eq_true rfl) ⟨rfl, rfl⟩ (u373_0 _ _) ?_
  have hv6 := hv2.off (j := 66) (x := (nI 1)) (by decide)
  have hm7 := hm3.go (mdf.up (v := u1) (j := 66) (x := (nI 1))) (by intro i hi; simp only [List.mem_cons, List.not_mem_nil, or_false] at hi ⊢ <;> omega)
  have e_u5 : (va_up u1 66 (nI 1)) 66 = (nI 1) := by simp [va_up]
  have e8 : (va_up u1 66 (nI 1)) 74 = nI q := by simp only [va_up]; exact e4
  generalize va_up u1 66 (nI 1) = u5 at hv6 hm7 e_u5 e8 ⊢
  refine ST.lift (fun _ _ k => T_iconst (v := nI 0) d_Mo_result_22 (by decide) k) ?_
  refine S_topi (y := nI 0) (congrArg nI (by omega)) ?_
  exact S_ret d_Mo_result_23 rfl rfl (by decide) (by decide) (hQ _ hv6 hm7 (e8.trans (congrArg nI (by omega))) (e_u5.trans (congrArg nI (by omega))))
set_option maxRecDepth 100000 in
set_option maxHeartbeats 4000000 in
theorem c_Mo_result_neg (G : GX) (v : Nat → Int32) (x : Int32) (hx : x < 0) (hv : okv v) : CS G mi_Mo_result [.ref 373, .int x] v (fun r v' => r = some (.int (nI 0)) ∧ okv v' ∧ mdf [66] v v' ∧ v' 66 = nI 1) := by
  refine CS.of (by decide) (Nat.le_of_ble_eq_true rfl) ?_
  generalize hQe : (fun (r : Option Value) (v' : Nat → Int32) => r = some (.int (nI 0)) ∧ okv v' ∧ mdf [66] v v' ∧ v' 66 = nI 1) = Q
  have hQ : ∀ u, okv u → mdf [66] v u → u 66 = nI 1 → Q (some (.int (nI 0))) u := by rw [← hQe]; exact fun u h1 h2 f0 => ⟨rfl, h1, h2, f0⟩
  clear hQe
  have hm : mdf [66] v v := mdf.rf
  show ST G mi_Mo_result 0 [(0, .ref 373), (1, .int x)] [] v 0 0 Q
  refine ST.lift (fun _ _ k => T_aload_n (v := .ref 373) d_Mo_result_0 rfl (Or.inr ⟨_, rfl⟩) k) ?_
  refine ST.lift (fun _ _ k => T_iconst (v := nI 0) d_Mo_result_1 (by decide) k) ?_
  refine S_putfield (v' := va_up v 66 (nI 0)) d_Mo_result_2 (fp_Mo_316 _) (w373 _) (Nat.le_of_ble_eq_true rfl) ⟨rfl, rfl⟩ (u373_0 _ _) ?_
  have hv2 := hv.off (j := 66) (x := (nI 0)) (by decide)
  have hm3 := hm.go (mdf.up (v := v) (j := 66) (x := (nI 0))) (by intro i hi; simp only [List.mem_cons, List.not_mem_nil, or_false] at hi ⊢ <;> omega)
  have e_u1 : (va_up v 66 (nI 0)) 66 = (nI 0) := by simp [va_up]
  generalize va_up v 66 (nI 0) = u1 at hv2 hm3 e_u1 ⊢
  refine ST.lift (fun _ _ k => T_iload_n d_Mo_result_5 rfl k) ?_
  refine S_if_lt d_Mo_result_6 rfl (fun _ => ?_) (fun c => by first | exact absurd c (by omega) | exact c.elim | exact absurd c (by decide) | exact absurd (by assumption) c | exact absurd c (by assumption))
  refine ST.lift (fun _ _ k => T_aload_n (v := .ref 373) d_Mo_result_17 rfl (Or.inr ⟨_, rfl⟩) k) ?_
  refine ST.lift (fun _ _ k => T_iconst (v := nI 1) d_Mo_result_18 (by decide) k) ?_
  refine S_putfield (v' := va_up u1 66 (nI 1)) d_Mo_result_19 (fp_Mo_316 _) (w373 _) (Nat.le_of_ble_eq_true rfl) ⟨rfl, rfl⟩ (u373_0 _ _) ?_
  have hv5 := hv2.off (j := 66) (x := (nI 1)) (by decide)
  have hm6 := hm3.go (mdf.up (v := u1) (j := 66) (x := (nI 1))) (by intro i hi; simp only [List.mem_cons, List.not_mem_nil, or_false] at hi ⊢ <;> omega)
  have e_u4 : (va_up u1 66 (nI 1)) 66 = (nI 1) := by simp [va_up]
  generalize va_up u1 66 (nI 1) = u4 at hv5 hm6 e_u4 ⊢
  refine ST.lift (fun _ _ k => T_iconst (v := nI 0) d_Mo_result_22 (by decide) k) ?_
  refine S_topi (y := nI 0) (congrArg nI (by omega)) ?_
  exact S_ret d_Mo_result_23 rfl rfl (by decide) (by decide) (hQ _ hv5 hm6 (e_u4.trans (congrArg nI (by omega))))
set_option maxRecDepth 100000 in
set_option maxHeartbeats 4000000 in
theorem c_Mo_isWire_0_1 (G : GX) (v : Nat → Int32) (i : Nat) (b_i : i < 2147483648) (hv : okv v) : CS G mi_Mo_isWire [.ref 373, .int (nI 0), .int (nI 1), .int (nI i)] v (fun r v' => ∃ z : Nat, z ≤ 1 ∧ (z = 1 → i < 96) ∧ r = some (.int (nI z)) ∧ okv v' ∧ mdf [] v v') := by
  refine CS.of (by decide) (Nat.le_of_ble_eq_true rfl) ?_
  generalize hQe : (fun (r : Option Value) (v' : Nat → Int32) => ∃ z : Nat, z ≤ 1 ∧ (z = 1 → i < 96) ∧ r = some (.int (nI z)) ∧ okv v' ∧ mdf [] v v') = Q
  have hQ : ∀ (z : Nat) (u : Nat → Int32), z ≤ 1 → (z = 1 → i < 96) → okv u → mdf [] v u → Q (some (.int (nI z))) u := by rw [← hQe]; exact fun z u hz hi h1 h2  => ⟨z, hz, hi, rfl, h1, h2⟩
  clear hQe
  have hm : mdf [] v v := mdf.rf
  show ST G mi_Mo_isWire 0 [(0, .ref 373), (1, .int (nI 0)), (2, .int (nI 1)), (3, .int (nI i))] [] v 0 0 Q
  refine ST.lift (fun _ _ k => T_iload_n d_Mo_isWire_0 rfl k) ?_
  refine S_static (as := [.int (nI 0)]) (rest := []) d_Mo_isWire_1 rfl (jw_Mo_isSession.jo (by decide)) lm_Mo_545 jt_Mo_isSession rfl (Nat.le_of_ble_eq_true rfl) (by decide) (by decide) (c_Mo_isSession G v 0 (by omega)) (fun r v' hq => ?_)
  rw [hq.1, hq.2]
  clear hq r v'
  show ST G mi_Mo_isWire 4 [(0, .ref 373), (1, .int (nI 0)), (2, .int (nI 1)), (3, .int (nI i))] [.int (nI 1)] v 0 0 _
  refine S_if_eqN d_Mo_isWire_4 rfl (by omega) (fun c => by first | exact absurd c (by omega) | exact c.elim | exact absurd c (by decide) | exact absurd (by assumption) c | exact absurd c (by assumption)) (fun _ => ?_)
  refine ST.lift (fun _ _ k => T_iload_n d_Mo_isWire_7 rfl k) ?_
  refine S_if_geN d_Mo_isWire_8 rfl (by omega) (fun _ => ?_) (fun c => by first | exact absurd c (by omega) | exact c.elim | exact absurd c (by decide) | exact absurd (by assumption) c | exact absurd c (by assumption))
  refine ST.lift (fun _ _ k => T_iload_n d_Mo_isWire_13 rfl k) ?_
  refine ST.lift (fun _ _ k => T_iconst (v := nI 1) d_Mo_isWire_14 (by decide) k) ?_
  refine S_icmp_neN d_Mo_isWire_15 rfl (by omega) (by omega) (fun c => by first | exact absurd c (by omega) | exact c.elim | exact absurd c (by decide) | exact absurd (by assumption) c | exact absurd c (by assumption)) (fun _ => ?_)
  refine ST.lift (fun _ _ k => T_aload_n (v := .ref 373) d_Mo_isWire_18 rfl (Or.inr ⟨_, rfl⟩) k) ?_
  refine S_getfield d_Mo_isWire_19 fg_Mo_392 (w373 _) rfl ?_
  refine ST.lift (fun _ _ k => T_iload_n d_Mo_isWire_22 rfl k) ?_
  refine S_xload (t := 3) (k := 0) (Or.inr ⟨rfl, d_Mo_isWire_23⟩) rfl (w424 _) (by decide) (by decide) ?_
  refine S_topi (y := v 96) rfl ?_
  refine S_if_eq d_Mo_isWire_24 rfl (fun c1 => ?_) (fun c1 => ?_)
  · refine ST.lift (fun _ _ k => T_iconst (v := nI 0) d_Mo_isWire_37 (by decide) k) ?_
    exact S_ret d_Mo_isWire_38 rfl (nar_z (by omega)) (by decide) (by decide) (hQ 0 _ (by omega) (by omega) hv hm)
  · refine ST.lift (fun _ _ k => T_iload_n d_Mo_isWire_27 rfl k) ?_
    refine ST.lift (fun _ _ k => T_bipush (v := nI 96) d_Mo_isWire_28 (by decide) k) ?_
    refine S_icmp_geN d_Mo_isWire_30 rfl (by omega) (by omega) (fun c2 => ?_) (fun c2 => ?_)
    · refine ST.lift (fun _ _ k => T_iconst (v := nI 0) d_Mo_isWire_37 (by decide) k) ?_
      exact S_ret d_Mo_isWire_38 rfl (nar_z (by omega)) (by decide) (by decide) (hQ 0 _ (by omega) (by omega) hv hm)
    · refine ST.lift (fun _ _ k => T_iconst (v := nI 1) d_Mo_isWire_33 (by decide) k) ?_
      refine ST.lift (fun _ _ k => T_goto (tgt := 38) d_Mo_isWire_34 rfl k) ?_
      exact S_ret d_Mo_isWire_38 rfl (nar_z (by omega)) (by decide) (by decide) (hQ 1 _ (by omega) (by omega) hv hm)
set_option maxRecDepth 100000 in
set_option maxHeartbeats 4000000 in
theorem c_Mo_wire_0_1 (G : GX) (v : Nat → Int32) (i : Nat) (b_i : i < 2147483648) (hv : okv v) : CS G mi_Mo_wire [.ref 373, .int (nI 0), .int (nI 1), .int (nI i)] v (fun r v' => ∃ z : Int32, r = some (.int z) ∧ okv v' ∧ mdf [66] v v') := by
  refine CS.of (by decide) (Nat.le_of_ble_eq_true rfl) ?_
  generalize hQe : (fun (r : Option Value) (v' : Nat → Int32) => ∃ z : Int32, r = some (.int z) ∧ okv v' ∧ mdf [66] v v') = Q
  have hQ : ∀ (z : Int32) (u : Nat → Int32), okv u → mdf [66] v u → Q (some (.int z)) u := by rw [← hQe]; exact fun z u h1 h2  => ⟨z, rfl, h1, h2⟩
  clear hQe
  have hm : mdf [66] v v := mdf.rf
  show ST G mi_Mo_wire 0 [(0, .ref 373), (1, .int (nI 0)), (2, .int (nI 1)), (3, .int (nI i))] [] v 0 0 Q
  refine ST.lift (fun _ _ k => T_aload_n (v := .ref 373) d_Mo_wire_0 rfl (Or.inr ⟨_, rfl⟩) k) ?_
  refine ST.lift (fun _ _ k => T_iconst (v := nI 0) d_Mo_wire_1 (by decide) k) ?_
  refine S_putfield (v' := va_up v 66 (nI 0)) d_Mo_wire_2 (fp_Mo_316 _) (w373 _) (Nat.le_of_ble_eq_true rfl) ⟨rfl, rfl⟩ (u373_0 _ _) ?_
  have hv2 := hv.off (j := 66) (x := (nI 0)) (by decide)
  have hm3 := hm.go (mdf.up (v := v) (j := 66) (x := (nI 0))) (by intro i hi; simp only [List.mem_cons, List.not_mem_nil, or_false] at hi ⊢ <;> omega)
  have e_u1 : (va_up v 66 (nI 0)) 66 = (nI 0) := by simp [va_up]
  generalize va_up v 66 (nI 0) = u1 at hv2 hm3 e_u1 ⊢
  refine ST.lift (fun _ _ k => T_aload_n (v := .ref 373) d_Mo_wire_5 rfl (Or.inr ⟨_, rfl⟩) k) ?_
  refine ST.lift (fun _ _ k => T_iload_n d_Mo_wire_6 rfl k) ?_
  refine ST.lift (fun _ _ k => T_iload_n d_Mo_wire_7 rfl k) ?_
  refine ST.lift (fun _ _ k => T_iload_n d_Mo_wire_8 rfl k) ?_
  refine S_virtual (as := [.int (nI 0), .int (nI 1), .int (nI i)]) (rest := []) (b := 373) d_Mo_wire_9 rfl (jw_Mo_isWire.jo (by decide)) lm_Mo_595 ji_Mo_isWire js_Mo_isWire (w373 _) rfl rfl rfl (Nat.le_of_ble_eq_true rfl) (by decide) (by decide) (c_Mo_isWire_0_1 G u1 i (by omega) hv2) (fun r u4 hq => ?_)
  obtain ⟨z7, hz7, hiz7, hr, hv5, hm6⟩ := hq
  rw [hr]
  clear hr r
  have hm8 := hm3.go hm6 (by intro i hi; simp only [List.mem_cons, List.not_mem_nil, or_false] at hi ⊢ <;> omega)
  have e9 : u4 66 = nI 0 := (hm6 66 (by decide)).trans e_u1
  show ST G mi_Mo_wire 12 [(0, .ref 373), (1, .int (nI 0)), (2, .int (nI 1)), (3, .int (nI i))] [.int (nI z7)] u4 0 0 _
  refine S_if_neN d_Mo_wire_12 rfl (by omega) (fun c10 => ?_) (fun c10 => ?_)
  · refine ST.lift (fun _ _ k => T_iload_n d_Mo_wire_22 rfl k) ?_
    refine ST.lift (fun _ _ k => T_iconst (v := nI 1) d_Mo_wire_23 (by decide) k) ?_
    refine S_icmp_neN d_Mo_wire_24 rfl (by omega) (by omega) (fun c => by first | exact absurd c (by omega) | exact c.elim | exact absurd c (by decide) | exact absurd (by assumption) c | exact absurd c (by assumption)) (fun _ => ?_)
    refine ST.lift (fun _ _ k => T_aload_n (v := .ref 373) d_Mo_wire_27 rfl (Or.inr ⟨_, rfl⟩) k) ?_
    refine S_getfield d_Mo_wire_28 fg_Mo_419 (w373 _) rfl ?_
    refine ST.lift (fun _ _ k => T_bipush (v := nI 96) d_Mo_wire_31 (by decide) k) ?_
    refine ST.lift (fun _ _ k => T_iload_n d_Mo_wire_33 rfl k) ?_
    refine S_imulN d_Mo_wire_34 ?_
    refine S_topi (y := nI 0) (by decide) ?_
    refine ST.lift (fun _ _ k => T_iload_n d_Mo_wire_35 rfl k) ?_
    refine S_iaddN d_Mo_wire_36 ?_
    refine S_iaload d_Mo_wire_37 a433 (vp_in_nI (by omega) (by omega)) (fun z11 => ?_)
    exact S_ret d_Mo_wire_38 rfl rfl (by decide) (by decide) (hQ _ _ hv5 hm8)
  · refine ST.lift (fun _ _ k => T_aload_n (v := .ref 373) d_Mo_wire_15 rfl (Or.inr ⟨_, rfl⟩) k) ?_
    refine ST.lift (fun _ _ k => T_iconst (v := nI 1) d_Mo_wire_16 (by decide) k) ?_
    refine S_putfield (v' := va_up u4 66 (nI 1)) d_Mo_wire_17 (fp_Mo_316 _) (w373 _) (Nat.le_of_ble_eq_true rfl) ⟨rfl, rfl⟩ (u373_0 _ _) ?_
    have hv13 := hv5.off (j := 66) (x := (nI 1)) (by decide)
    have hm14 := hm8.go (mdf.up (v := u4) (j := 66) (x := (nI 1))) (by intro i hi; simp only [List.mem_cons, List.not_mem_nil, or_false] at hi ⊢ <;> omega)
    have e_u12 : (va_up u4 66 (nI 1)) 66 = (nI 1) := by simp [va_up]
    generalize va_up u4 66 (nI 1) = u12 at hv13 hm14 e_u12 ⊢
    refine ST.lift (fun _ _ k => T_iconst (v := nI 0) d_Mo_wire_20 (by decide) k) ?_
    exact S_ret d_Mo_wire_21 rfl rfl (by decide) (by decide) (hQ _ _ hv13 hm14)
set_option maxRecDepth 100000 in
set_option maxHeartbeats 4000000 in
theorem c_Mo_tamper_0_1 (G : GX) (v : Nat → Int32) (i : Nat) (b_i : i < 2147483648) (mask : Int32) (hv : okv v) : CS G mi_Mo_tamper [.ref 373, .int (nI 0), .int (nI 1), .int (nI i), .int mask] v (fun r v' => ∃ z : Nat, z ≤ 1 ∧ r = some (.int (nI z)) ∧ okv v' ∧ mdf [66] v v') := by
  refine CS.of (by decide) (Nat.le_of_ble_eq_true rfl) ?_
  generalize hQe : (fun (r : Option Value) (v' : Nat → Int32) => ∃ z : Nat, z ≤ 1 ∧ r = some (.int (nI z)) ∧ okv v' ∧ mdf [66] v v') = Q
  have hQ : ∀ (z : Nat) (u : Nat → Int32), z ≤ 1 → okv u → mdf [66] v u → Q (some (.int (nI z))) u := by rw [← hQe]; exact fun z u hz h1 h2  => ⟨z, hz, rfl, h1, h2⟩
  clear hQe
  have hm : mdf [66] v v := mdf.rf
  show ST G mi_Mo_tamper 0 [(0, .ref 373), (1, .int (nI 0)), (2, .int (nI 1)), (3, .int (nI i)), (4, .int mask)] [] v 0 0 Q
  refine ST.lift (fun _ _ k => T_aload_n (v := .ref 373) d_Mo_tamper_0 rfl (Or.inr ⟨_, rfl⟩) k) ?_
  refine ST.lift (fun _ _ k => T_iconst (v := nI 0) d_Mo_tamper_1 (by decide) k) ?_
  refine S_putfield (v' := va_up v 66 (nI 0)) d_Mo_tamper_2 (fp_Mo_316 _) (w373 _) (Nat.le_of_ble_eq_true rfl) ⟨rfl, rfl⟩ (u373_0 _ _) ?_
  have hv2 := hv.off (j := 66) (x := (nI 0)) (by decide)
  have hm3 := hm.go (mdf.up (v := v) (j := 66) (x := (nI 0))) (by intro i hi; simp only [List.mem_cons, List.not_mem_nil, or_false] at hi ⊢ <;> omega)
  have e_u1 : (va_up v 66 (nI 0)) 66 = (nI 0) := by simp [va_up]
  generalize va_up v 66 (nI 0) = u1 at hv2 hm3 e_u1 ⊢
  refine ST.lift (fun _ _ k => T_aload_n (v := .ref 373) d_Mo_tamper_5 rfl (Or.inr ⟨_, rfl⟩) k) ?_
  refine ST.lift (fun _ _ k => T_iload_n d_Mo_tamper_6 rfl k) ?_
  refine ST.lift (fun _ _ k => T_iload_n d_Mo_tamper_7 rfl k) ?_
  refine ST.lift (fun _ _ k => T_iload_n d_Mo_tamper_8 rfl k) ?_
  refine S_virtual (as := [.int (nI 0), .int (nI 1), .int (nI i)]) (rest := []) (b := 373) d_Mo_tamper_9 rfl (jw_Mo_isWire.jo (by decide)) lm_Mo_595 ji_Mo_isWire js_Mo_isWire (w373 _) rfl rfl rfl (Nat.le_of_ble_eq_true rfl) (by decide) (by decide) (c_Mo_isWire_0_1 G u1 i (by omega) hv2) (fun r u4 hq => ?_)
  obtain ⟨z7, hz7, hiz7, hr, hv5, hm6⟩ := hq
  rw [hr]
  clear hr r
  have hm8 := hm3.go hm6 (by intro i hi; simp only [List.mem_cons, List.not_mem_nil, or_false] at hi ⊢ <;> omega)
  have e9 : u4 66 = nI 0 := (hm6 66 (by decide)).trans e_u1
  show ST G mi_Mo_tamper 12 [(0, .ref 373), (1, .int (nI 0)), (2, .int (nI 1)), (3, .int (nI i)), (4, .int mask)] [.int (nI z7)] u4 0 0 _
  refine S_if_neN d_Mo_tamper_12 rfl (by omega) (fun c10 => ?_) (fun c10 => ?_)
  · refine ST.lift (fun _ _ k => T_iload_n d_Mo_tamper_17 rfl k) ?_
    refine ST.lift (fun _ _ k => T_iconst (v := nI 1) d_Mo_tamper_18 (by decide) k) ?_
    refine S_icmp_neN d_Mo_tamper_19 rfl (by omega) (by omega) (fun c => by first | exact absurd c (by omega) | exact c.elim | exact absurd c (by decide) | exact absurd (by assumption) c | exact absurd c (by assumption)) (fun _ => ?_)
    refine ST.lift (fun _ _ k => T_aload_n (v := .ref 373) d_Mo_tamper_22 rfl (Or.inr ⟨_, rfl⟩) k) ?_
    refine S_getfield d_Mo_tamper_23 fg_Mo_419 (w373 _) rfl ?_
    refine ST.lift (fun _ _ k => T_bipush (v := nI 96) d_Mo_tamper_26 (by decide) k) ?_
    refine ST.lift (fun _ _ k => T_iload_n d_Mo_tamper_28 rfl k) ?_
    refine S_imulN d_Mo_tamper_29 ?_
    refine S_topi (y := nI 0) (by decide) ?_
    refine ST.lift (fun _ _ k => T_iload_n d_Mo_tamper_30 rfl k) ?_
    refine S_iaddN d_Mo_tamper_31 ?_
    refine ST.lift (fun _ _ k => T_dup2 d_Mo_tamper_32 rfl rfl k) ?_
    refine S_iaload d_Mo_tamper_33 a433 (vp_in_nI (by omega) (by omega)) (fun z11 => ?_)
    refine ST.lift (fun _ _ k => T_iload d_Mo_tamper_34 rfl k) ?_
    refine ST.lift (fun _ _ k => T_sipush (v := nI 255) d_Mo_tamper_36 (by decide) k) ?_
    refine S_iandM 8 d_Mo_tamper_39 (by decide) (by decide) (fun j12 hj12 => ?_)
    simp only [Nat.reducePow] at hj12
    refine ST.lift (fun _ _ k => T_ixor d_Mo_tamper_40 k) (S_anyi fun z13 => ?_)
    refine S_iastore d_Mo_tamper_41 (by decide) a433 (vp_in_nI (by omega) (by omega)) ?_
    refine ST.lift (fun _ _ k => T_iload_n d_Mo_tamper_42 rfl k) ?_
    refine ST.lift (fun _ _ k => T_iconst (v := nI 2) d_Mo_tamper_43 (by decide) k) ?_
    refine S_icmp_neN d_Mo_tamper_44 rfl (by omega) (by omega) (fun _ => ?_) (fun c => by first | exact absurd c (by omega) | exact c.elim | exact absurd c (by decide) | exact absurd (by assumption) c | exact absurd c (by assumption))
    refine ST.lift (fun _ _ k => T_iload_n d_Mo_tamper_68 rfl k) ?_
    refine ST.lift (fun _ _ k => T_iconst (v := nI 3) d_Mo_tamper_69 (by decide) k) ?_
    refine S_icmp_neN d_Mo_tamper_70 rfl (by omega) (by omega) (fun _ => ?_) (fun c => by first | exact absurd c (by omega) | exact c.elim | exact absurd c (by decide) | exact absurd (by assumption) c | exact absurd c (by assumption))
    refine ST.lift (fun _ _ k => T_iconst (v := nI 1) d_Mo_tamper_93 (by decide) k) ?_
    exact S_ret d_Mo_tamper_94 rfl (nar_z (by omega)) (by decide) (by decide) (hQ 1 _ (by omega) hv5 hm8)
  · refine ST.lift (fun _ _ k => T_iconst (v := nI 0) d_Mo_tamper_15 (by decide) k) ?_
    exact S_ret d_Mo_tamper_16 rfl (nar_z (by omega)) (by decide) (by decide) (hQ 0 _ (by omega) hv5 hm8)
set_option maxRecDepth 100000 in
set_option maxHeartbeats 4000000 in
theorem c_Mo_isWire_0_2 (G : GX) (v : Nat → Int32) (i : Nat) (b_i : i < 2147483648) (hv : okv v) : CS G mi_Mo_isWire [.ref 373, .int (nI 0), .int (nI 2), .int (nI i)] v (fun r v' => ∃ z : Nat, z ≤ 1 ∧ (z = 1 → i < 320) ∧ r = some (.int (nI z)) ∧ okv v' ∧ mdf [] v v') := by
  refine CS.of (by decide) (Nat.le_of_ble_eq_true rfl) ?_
  generalize hQe : (fun (r : Option Value) (v' : Nat → Int32) => ∃ z : Nat, z ≤ 1 ∧ (z = 1 → i < 320) ∧ r = some (.int (nI z)) ∧ okv v' ∧ mdf [] v v') = Q
  have hQ : ∀ (z : Nat) (u : Nat → Int32), z ≤ 1 → (z = 1 → i < 320) → okv u → mdf [] v u → Q (some (.int (nI z))) u := by rw [← hQe]; exact fun z u hz hi h1 h2  => ⟨z, hz, hi, rfl, h1, h2⟩
  clear hQe
  have hm : mdf [] v v := mdf.rf
  show ST G mi_Mo_isWire 0 [(0, .ref 373), (1, .int (nI 0)), (2, .int (nI 2)), (3, .int (nI i))] [] v 0 0 Q
  refine ST.lift (fun _ _ k => T_iload_n d_Mo_isWire_0 rfl k) ?_
  refine S_static (as := [.int (nI 0)]) (rest := []) d_Mo_isWire_1 rfl (jw_Mo_isSession.jo (by decide)) lm_Mo_545 jt_Mo_isSession rfl (Nat.le_of_ble_eq_true rfl) (by decide) (by decide) (c_Mo_isSession G v 0 (by omega)) (fun r v' hq => ?_)
  rw [hq.1, hq.2]
  clear hq r v'
  show ST G mi_Mo_isWire 4 [(0, .ref 373), (1, .int (nI 0)), (2, .int (nI 2)), (3, .int (nI i))] [.int (nI 1)] v 0 0 _
  refine S_if_eqN d_Mo_isWire_4 rfl (by omega) (fun c => by first | exact absurd c (by omega) | exact c.elim | exact absurd c (by decide) | exact absurd (by assumption) c | exact absurd c (by assumption)) (fun _ => ?_)
  refine ST.lift (fun _ _ k => T_iload_n d_Mo_isWire_7 rfl k) ?_
  refine S_if_geN d_Mo_isWire_8 rfl (by omega) (fun _ => ?_) (fun c => by first | exact absurd c (by omega) | exact c.elim | exact absurd c (by decide) | exact absurd (by assumption) c | exact absurd c (by assumption))
  refine ST.lift (fun _ _ k => T_iload_n d_Mo_isWire_13 rfl k) ?_
  refine ST.lift (fun _ _ k => T_iconst (v := nI 1) d_Mo_isWire_14 (by decide) k) ?_
  refine S_icmp_neN d_Mo_isWire_15 rfl (by omega) (by omega) (fun _ => ?_) (fun c => by first | exact absurd c (by omega) | exact c.elim | exact absurd c (by decide) | exact absurd (by assumption) c | exact absurd c (by assumption))
  refine ST.lift (fun _ _ k => T_iload_n d_Mo_isWire_39 rfl k) ?_
  refine ST.lift (fun _ _ k => T_iconst (v := nI 2) d_Mo_isWire_40 (by decide) k) ?_
  refine S_icmp_neN d_Mo_isWire_41 rfl (by omega) (by omega) (fun c => by first | exact absurd c (by omega) | exact c.elim | exact absurd c (by decide) | exact absurd (by assumption) c | exact absurd c (by assumption)) (fun _ => ?_)
  refine ST.lift (fun _ _ k => T_aload_n (v := .ref 373) d_Mo_isWire_44 rfl (Or.inr ⟨_, rfl⟩) k) ?_
  refine S_getfield d_Mo_isWire_45 fg_Mo_395 (w373 _) rfl ?_
  refine ST.lift (fun _ _ k => T_iload_n d_Mo_isWire_48 rfl k) ?_
  refine S_xload (t := 3) (k := 0) (Or.inr ⟨rfl, d_Mo_isWire_49⟩) rfl (w425 _) (by decide) (by decide) ?_
  refine S_topi (y := v 100) rfl ?_
  refine S_if_eq d_Mo_isWire_50 rfl (fun c1 => ?_) (fun c1 => ?_)
  · refine ST.lift (fun _ _ k => T_iconst (v := nI 0) d_Mo_isWire_64 (by decide) k) ?_
    exact S_ret d_Mo_isWire_65 rfl (nar_z (by omega)) (by decide) (by decide) (hQ 0 _ (by omega) (by omega) hv hm)
  · refine ST.lift (fun _ _ k => T_iload_n d_Mo_isWire_53 rfl k) ?_
    refine ST.lift (fun _ _ k => T_sipush (v := nI 320) d_Mo_isWire_54 (by decide) k) ?_
    refine S_icmp_geN d_Mo_isWire_57 rfl (by omega) (by omega) (fun c2 => ?_) (fun c2 => ?_)
    · refine ST.lift (fun _ _ k => T_iconst (v := nI 0) d_Mo_isWire_64 (by decide) k) ?_
      exact S_ret d_Mo_isWire_65 rfl (nar_z (by omega)) (by decide) (by decide) (hQ 0 _ (by omega) (by omega) hv hm)
    · refine ST.lift (fun _ _ k => T_iconst (v := nI 1) d_Mo_isWire_60 (by decide) k) ?_
      refine ST.lift (fun _ _ k => T_goto (tgt := 65) d_Mo_isWire_61 rfl k) ?_
      exact S_ret d_Mo_isWire_65 rfl (nar_z (by omega)) (by decide) (by decide) (hQ 1 _ (by omega) (by omega) hv hm)
set_option maxRecDepth 100000 in
set_option maxHeartbeats 4000000 in
theorem c_Mo_wire_0_2 (G : GX) (v : Nat → Int32) (i : Nat) (b_i : i < 2147483648) (hv : okv v) : CS G mi_Mo_wire [.ref 373, .int (nI 0), .int (nI 2), .int (nI i)] v (fun r v' => ∃ z : Int32, r = some (.int z) ∧ okv v' ∧ mdf [66] v v') := by
  refine CS.of (by decide) (Nat.le_of_ble_eq_true rfl) ?_
  generalize hQe : (fun (r : Option Value) (v' : Nat → Int32) => ∃ z : Int32, r = some (.int z) ∧ okv v' ∧ mdf [66] v v') = Q
  have hQ : ∀ (z : Int32) (u : Nat → Int32), okv u → mdf [66] v u → Q (some (.int z)) u := by rw [← hQe]; exact fun z u h1 h2  => ⟨z, rfl, h1, h2⟩
  clear hQe
  have hm : mdf [66] v v := mdf.rf
  show ST G mi_Mo_wire 0 [(0, .ref 373), (1, .int (nI 0)), (2, .int (nI 2)), (3, .int (nI i))] [] v 0 0 Q
  refine ST.lift (fun _ _ k => T_aload_n (v := .ref 373) d_Mo_wire_0 rfl (Or.inr ⟨_, rfl⟩) k) ?_
  refine ST.lift (fun _ _ k => T_iconst (v := nI 0) d_Mo_wire_1 (by decide) k) ?_
  refine S_putfield (v' := va_up v 66 (nI 0)) d_Mo_wire_2 (fp_Mo_316 _) (w373 _) (Nat.le_of_ble_eq_true rfl) ⟨rfl, rfl⟩ (u373_0 _ _) ?_
  have hv2 := hv.off (j := 66) (x := (nI 0)) (by decide)
  have hm3 := hm.go (mdf.up (v := v) (j := 66) (x := (nI 0))) (by intro i hi; simp only [List.mem_cons, List.not_mem_nil, or_false] at hi ⊢ <;> omega)
  have e_u1 : (va_up v 66 (nI 0)) 66 = (nI 0) := by simp [va_up]
  generalize va_up v 66 (nI 0) = u1 at hv2 hm3 e_u1 ⊢
  refine ST.lift (fun _ _ k => T_aload_n (v := .ref 373) d_Mo_wire_5 rfl (Or.inr ⟨_, rfl⟩) k) ?_
  refine ST.lift (fun _ _ k => T_iload_n d_Mo_wire_6 rfl k) ?_
  refine ST.lift (fun _ _ k => T_iload_n d_Mo_wire_7 rfl k) ?_
  refine ST.lift (fun _ _ k => T_iload_n d_Mo_wire_8 rfl k) ?_
  refine S_virtual (as := [.int (nI 0), .int (nI 2), .int (nI i)]) (rest := []) (b := 373) d_Mo_wire_9 rfl (jw_Mo_isWire.jo (by decide)) lm_Mo_595 ji_Mo_isWire js_Mo_isWire (w373 _) rfl rfl rfl (Nat.le_of_ble_eq_true rfl) (by decide) (by decide) (c_Mo_isWire_0_2 G u1 i (by omega) hv2) (fun r u4 hq => ?_)
  obtain ⟨z7, hz7, hiz7, hr, hv5, hm6⟩ := hq
  rw [hr]
  clear hr r
  have hm8 := hm3.go hm6 (by intro i hi; simp only [List.mem_cons, List.not_mem_nil, or_false] at hi ⊢ <;> omega)
  have e9 : u4 66 = nI 0 := (hm6 66 (by decide)).trans e_u1
  show ST G mi_Mo_wire 12 [(0, .ref 373), (1, .int (nI 0)), (2, .int (nI 2)), (3, .int (nI i))] [.int (nI z7)] u4 0 0 _
  refine S_if_neN d_Mo_wire_12 rfl (by omega) (fun c10 => ?_) (fun c10 => ?_)
  · refine ST.lift (fun _ _ k => T_iload_n d_Mo_wire_22 rfl k) ?_
    refine ST.lift (fun _ _ k => T_iconst (v := nI 1) d_Mo_wire_23 (by decide) k) ?_
    refine S_icmp_neN d_Mo_wire_24 rfl (by omega) (by omega) (fun _ => ?_) (fun c => by first | exact absurd c (by omega) | exact c.elim | exact absurd c (by decide) | exact absurd (by assumption) c | exact absurd c (by assumption))
    refine ST.lift (fun _ _ k => T_iload_n d_Mo_wire_39 rfl k) ?_
    refine ST.lift (fun _ _ k => T_iconst (v := nI 2) d_Mo_wire_40 (by decide) k) ?_
    refine S_icmp_neN d_Mo_wire_41 rfl (by omega) (by omega) (fun c => by first | exact absurd c (by omega) | exact c.elim | exact absurd c (by decide) | exact absurd (by assumption) c | exact absurd c (by assumption)) (fun _ => ?_)
    refine ST.lift (fun _ _ k => T_aload_n (v := .ref 373) d_Mo_wire_44 rfl (Or.inr ⟨_, rfl⟩) k) ?_
    refine S_getfield d_Mo_wire_45 fg_Mo_422 (w373 _) rfl ?_
    refine ST.lift (fun _ _ k => T_sipush (v := nI 320) d_Mo_wire_48 (by decide) k) ?_
    refine ST.lift (fun _ _ k => T_iload_n d_Mo_wire_51 rfl k) ?_
    refine S_imulN d_Mo_wire_52 ?_
    refine S_topi (y := nI 0) (by decide) ?_
    refine ST.lift (fun _ _ k => T_iload_n d_Mo_wire_53 rfl k) ?_
    refine S_iaddN d_Mo_wire_54 ?_
    refine S_iaload d_Mo_wire_55 a434 (vp_in_nI (by omega) (by omega)) (fun z11 => ?_)
    exact S_ret d_Mo_wire_56 rfl rfl (by decide) (by decide) (hQ _ _ hv5 hm8)
  · refine ST.lift (fun _ _ k => T_aload_n (v := .ref 373) d_Mo_wire_15 rfl (Or.inr ⟨_, rfl⟩) k) ?_
    refine ST.lift (fun _ _ k => T_iconst (v := nI 1) d_Mo_wire_16 (by decide) k) ?_
    refine S_putfield (v' := va_up u4 66 (nI 1)) d_Mo_wire_17 (fp_Mo_316 _) (w373 _) (Nat.le_of_ble_eq_true rfl) ⟨rfl, rfl⟩ (u373_0 _ _) ?_
    have hv13 := hv5.off (j := 66) (x := (nI 1)) (by decide)
    have hm14 := hm8.go (mdf.up (v := u4) (j := 66) (x := (nI 1))) (by intro i hi; simp only [List.mem_cons, List.not_mem_nil, or_false] at hi ⊢ <;> omega)
    have e_u12 : (va_up u4 66 (nI 1)) 66 = (nI 1) := by simp [va_up]
    generalize va_up u4 66 (nI 1) = u12 at hv13 hm14 e_u12 ⊢
    refine ST.lift (fun _ _ k => T_iconst (v := nI 0) d_Mo_wire_20 (by decide) k) ?_
    exact S_ret d_Mo_wire_21 rfl rfl (by decide) (by decide) (hQ _ _ hv13 hm14)
set_option maxRecDepth 100000 in
set_option maxHeartbeats 4000000 in
theorem c_Mo_tamper_0_2 (G : GX) (v : Nat → Int32) (i : Nat) (b_i : i < 2147483648) (mask : Int32) (hv : okv v) : CS G mi_Mo_tamper [.ref 373, .int (nI 0), .int (nI 2), .int (nI i), .int mask] v (fun r v' => ∃ z : Nat, z ≤ 1 ∧ r = some (.int (nI z)) ∧ okv v' ∧ mdf [66] v v') := by
  refine CS.of (by decide) (Nat.le_of_ble_eq_true rfl) ?_
  generalize hQe : (fun (r : Option Value) (v' : Nat → Int32) => ∃ z : Nat, z ≤ 1 ∧ r = some (.int (nI z)) ∧ okv v' ∧ mdf [66] v v') = Q
  have hQ : ∀ (z : Nat) (u : Nat → Int32), z ≤ 1 → okv u → mdf [66] v u → Q (some (.int (nI z))) u := by rw [← hQe]; exact fun z u hz h1 h2  => ⟨z, hz, rfl, h1, h2⟩
  clear hQe
  have hm : mdf [66] v v := mdf.rf
  show ST G mi_Mo_tamper 0 [(0, .ref 373), (1, .int (nI 0)), (2, .int (nI 2)), (3, .int (nI i)), (4, .int mask)] [] v 0 0 Q
  refine ST.lift (fun _ _ k => T_aload_n (v := .ref 373) d_Mo_tamper_0 rfl (Or.inr ⟨_, rfl⟩) k) ?_
  refine ST.lift (fun _ _ k => T_iconst (v := nI 0) d_Mo_tamper_1 (by decide) k) ?_
  refine S_putfield (v' := va_up v 66 (nI 0)) d_Mo_tamper_2 (fp_Mo_316 _) (w373 _) (Nat.le_of_ble_eq_true rfl) ⟨rfl, rfl⟩ (u373_0 _ _) ?_
  have hv2 := hv.off (j := 66) (x := (nI 0)) (by decide)
  have hm3 := hm.go (mdf.up (v := v) (j := 66) (x := (nI 0))) (by intro i hi; simp only [List.mem_cons, List.not_mem_nil, or_false] at hi ⊢ <;> omega)
  have e_u1 : (va_up v 66 (nI 0)) 66 = (nI 0) := by simp [va_up]
  generalize va_up v 66 (nI 0) = u1 at hv2 hm3 e_u1 ⊢
  refine ST.lift (fun _ _ k => T_aload_n (v := .ref 373) d_Mo_tamper_5 rfl (Or.inr ⟨_, rfl⟩) k) ?_
  refine ST.lift (fun _ _ k => T_iload_n d_Mo_tamper_6 rfl k) ?_
  refine ST.lift (fun _ _ k => T_iload_n d_Mo_tamper_7 rfl k) ?_
  refine ST.lift (fun _ _ k => T_iload_n d_Mo_tamper_8 rfl k) ?_
  refine S_virtual (as := [.int (nI 0), .int (nI 2), .int (nI i)]) (rest := []) (b := 373) d_Mo_tamper_9 rfl (jw_Mo_isWire.jo (by decide)) lm_Mo_595 ji_Mo_isWire js_Mo_isWire (w373 _) rfl rfl rfl (Nat.le_of_ble_eq_true rfl) (by decide) (by decide) (c_Mo_isWire_0_2 G u1 i (by omega) hv2) (fun r u4 hq => ?_)
  obtain ⟨z7, hz7, hiz7, hr, hv5, hm6⟩ := hq
  rw [hr]
  clear hr r
  have hm8 := hm3.go hm6 (by intro i hi; simp only [List.mem_cons, List.not_mem_nil, or_false] at hi ⊢ <;> omega)
  have e9 : u4 66 = nI 0 := (hm6 66 (by decide)).trans e_u1
  show ST G mi_Mo_tamper 12 [(0, .ref 373), (1, .int (nI 0)), (2, .int (nI 2)), (3, .int (nI i)), (4, .int mask)] [.int (nI z7)] u4 0 0 _
  refine S_if_neN d_Mo_tamper_12 rfl (by omega) (fun c10 => ?_) (fun c10 => ?_)
  · refine ST.lift (fun _ _ k => T_iload_n d_Mo_tamper_17 rfl k) ?_
    refine ST.lift (fun _ _ k => T_iconst (v := nI 1) d_Mo_tamper_18 (by decide) k) ?_
    refine S_icmp_neN d_Mo_tamper_19 rfl (by omega) (by omega) (fun _ => ?_) (fun c => by first | exact absurd c (by omega) | exact c.elim | exact absurd c (by decide) | exact absurd (by assumption) c | exact absurd c (by assumption))
    refine ST.lift (fun _ _ k => T_iload_n d_Mo_tamper_42 rfl k) ?_
    refine ST.lift (fun _ _ k => T_iconst (v := nI 2) d_Mo_tamper_43 (by decide) k) ?_
    refine S_icmp_neN d_Mo_tamper_44 rfl (by omega) (by omega) (fun c => by first | exact absurd c (by omega) | exact c.elim | exact absurd c (by decide) | exact absurd (by assumption) c | exact absurd c (by assumption)) (fun _ => ?_)
    refine ST.lift (fun _ _ k => T_aload_n (v := .ref 373) d_Mo_tamper_47 rfl (Or.inr ⟨_, rfl⟩) k) ?_
    refine S_getfield d_Mo_tamper_48 fg_Mo_422 (w373 _) rfl ?_
    refine ST.lift (fun _ _ k => T_sipush (v := nI 320) d_Mo_tamper_51 (by decide) k) ?_
    refine ST.lift (fun _ _ k => T_iload_n d_Mo_tamper_54 rfl k) ?_
    refine S_imulN d_Mo_tamper_55 ?_
    refine S_topi (y := nI 0) (by decide) ?_
    refine ST.lift (fun _ _ k => T_iload_n d_Mo_tamper_56 rfl k) ?_
    refine S_iaddN d_Mo_tamper_57 ?_
    refine ST.lift (fun _ _ k => T_dup2 d_Mo_tamper_58 rfl rfl k) ?_
    refine S_iaload d_Mo_tamper_59 a434 (vp_in_nI (by omega) (by omega)) (fun z11 => ?_)
    refine ST.lift (fun _ _ k => T_iload d_Mo_tamper_60 rfl k) ?_
    refine ST.lift (fun _ _ k => T_sipush (v := nI 255) d_Mo_tamper_62 (by decide) k) ?_
    refine S_iandM 8 d_Mo_tamper_65 (by decide) (by decide) (fun j12 hj12 => ?_)
    simp only [Nat.reducePow] at hj12
    refine ST.lift (fun _ _ k => T_ixor d_Mo_tamper_66 k) (S_anyi fun z13 => ?_)
    refine S_iastore d_Mo_tamper_67 (by decide) a434 (vp_in_nI (by omega) (by omega)) ?_
    refine ST.lift (fun _ _ k => T_iload_n d_Mo_tamper_68 rfl k) ?_
    refine ST.lift (fun _ _ k => T_iconst (v := nI 3) d_Mo_tamper_69 (by decide) k) ?_
    refine S_icmp_neN d_Mo_tamper_70 rfl (by omega) (by omega) (fun _ => ?_) (fun c => by first | exact absurd c (by omega) | exact c.elim | exact absurd c (by decide) | exact absurd (by assumption) c | exact absurd c (by assumption))
    refine ST.lift (fun _ _ k => T_iconst (v := nI 1) d_Mo_tamper_93 (by decide) k) ?_
    exact S_ret d_Mo_tamper_94 rfl (nar_z (by omega)) (by decide) (by decide) (hQ 1 _ (by omega) hv5 hm8)
  · refine ST.lift (fun _ _ k => T_iconst (v := nI 0) d_Mo_tamper_15 (by decide) k) ?_
    exact S_ret d_Mo_tamper_16 rfl (nar_z (by omega)) (by decide) (by decide) (hQ 0 _ (by omega) hv5 hm8)
set_option maxRecDepth 100000 in
set_option maxHeartbeats 4000000 in
theorem c_Mo_isWire_0_3 (G : GX) (v : Nat → Int32) (i : Nat) (b_i : i < 2147483648) (hv : okv v) : CS G mi_Mo_isWire [.ref 373, .int (nI 0), .int (nI 3), .int (nI i)] v (fun r v' => ∃ z : Nat, z ≤ 1 ∧ (z = 1 → i < 64) ∧ r = some (.int (nI z)) ∧ okv v' ∧ mdf [] v v') := by
  refine CS.of (by decide) (Nat.le_of_ble_eq_true rfl) ?_
  generalize hQe : (fun (r : Option Value) (v' : Nat → Int32) => ∃ z : Nat, z ≤ 1 ∧ (z = 1 → i < 64) ∧ r = some (.int (nI z)) ∧ okv v' ∧ mdf [] v v') = Q
  have hQ : ∀ (z : Nat) (u : Nat → Int32), z ≤ 1 → (z = 1 → i < 64) → okv u → mdf [] v u → Q (some (.int (nI z))) u := by rw [← hQe]; exact fun z u hz hi h1 h2  => ⟨z, hz, hi, rfl, h1, h2⟩
  clear hQe
  have hm : mdf [] v v := mdf.rf
  show ST G mi_Mo_isWire 0 [(0, .ref 373), (1, .int (nI 0)), (2, .int (nI 3)), (3, .int (nI i))] [] v 0 0 Q
  refine ST.lift (fun _ _ k => T_iload_n d_Mo_isWire_0 rfl k) ?_
  refine S_static (as := [.int (nI 0)]) (rest := []) d_Mo_isWire_1 rfl (jw_Mo_isSession.jo (by decide)) lm_Mo_545 jt_Mo_isSession rfl (Nat.le_of_ble_eq_true rfl) (by decide) (by decide) (c_Mo_isSession G v 0 (by omega)) (fun r v' hq => ?_)
  rw [hq.1, hq.2]
  clear hq r v'
  show ST G mi_Mo_isWire 4 [(0, .ref 373), (1, .int (nI 0)), (2, .int (nI 3)), (3, .int (nI i))] [.int (nI 1)] v 0 0 _
  refine S_if_eqN d_Mo_isWire_4 rfl (by omega) (fun c => by first | exact absurd c (by omega) | exact c.elim | exact absurd c (by decide) | exact absurd (by assumption) c | exact absurd c (by assumption)) (fun _ => ?_)
  refine ST.lift (fun _ _ k => T_iload_n d_Mo_isWire_7 rfl k) ?_
  refine S_if_geN d_Mo_isWire_8 rfl (by omega) (fun _ => ?_) (fun c => by first | exact absurd c (by omega) | exact c.elim | exact absurd c (by decide) | exact absurd (by assumption) c | exact absurd c (by assumption))
  refine ST.lift (fun _ _ k => T_iload_n d_Mo_isWire_13 rfl k) ?_
  refine ST.lift (fun _ _ k => T_iconst (v := nI 1) d_Mo_isWire_14 (by decide) k) ?_
  refine S_icmp_neN d_Mo_isWire_15 rfl (by omega) (by omega) (fun _ => ?_) (fun c => by first | exact absurd c (by omega) | exact c.elim | exact absurd c (by decide) | exact absurd (by assumption) c | exact absurd c (by assumption))
  refine ST.lift (fun _ _ k => T_iload_n d_Mo_isWire_39 rfl k) ?_
  refine ST.lift (fun _ _ k => T_iconst (v := nI 2) d_Mo_isWire_40 (by decide) k) ?_
  refine S_icmp_neN d_Mo_isWire_41 rfl (by omega) (by omega) (fun _ => ?_) (fun c => by first | exact absurd c (by omega) | exact c.elim | exact absurd c (by decide) | exact absurd (by assumption) c | exact absurd c (by assumption))
  refine ST.lift (fun _ _ k => T_iload_n d_Mo_isWire_66 rfl k) ?_
  refine ST.lift (fun _ _ k => T_iconst (v := nI 3) d_Mo_isWire_67 (by decide) k) ?_
  refine S_icmp_neN d_Mo_isWire_68 rfl (by omega) (by omega) (fun c => by first | exact absurd c (by omega) | exact c.elim | exact absurd c (by decide) | exact absurd (by assumption) c | exact absurd c (by assumption)) (fun _ => ?_)
  refine ST.lift (fun _ _ k => T_aload_n (v := .ref 373) d_Mo_isWire_71 rfl (Or.inr ⟨_, rfl⟩) k) ?_
  refine S_getfield d_Mo_isWire_72 fg_Mo_398 (w373 _) rfl ?_
  refine ST.lift (fun _ _ k => T_iload_n d_Mo_isWire_75 rfl k) ?_
  refine S_xload (t := 3) (k := 0) (Or.inr ⟨rfl, d_Mo_isWire_76⟩) rfl (w426 _) (by decide) (by decide) ?_
  refine S_topi (y := v 104) rfl ?_
  refine S_if_eq d_Mo_isWire_77 rfl (fun c1 => ?_) (fun c1 => ?_)
  · refine ST.lift (fun _ _ k => T_iconst (v := nI 0) d_Mo_isWire_90 (by decide) k) ?_
    exact S_ret d_Mo_isWire_91 rfl (nar_z (by omega)) (by decide) (by decide) (hQ 0 _ (by omega) (by omega) hv hm)
  · refine ST.lift (fun _ _ k => T_iload_n d_Mo_isWire_80 rfl k) ?_
    refine ST.lift (fun _ _ k => T_bipush (v := nI 64) d_Mo_isWire_81 (by decide) k) ?_
    refine S_icmp_geN d_Mo_isWire_83 rfl (by omega) (by omega) (fun c2 => ?_) (fun c2 => ?_)
    · refine ST.lift (fun _ _ k => T_iconst (v := nI 0) d_Mo_isWire_90 (by decide) k) ?_
      exact S_ret d_Mo_isWire_91 rfl (nar_z (by omega)) (by decide) (by decide) (hQ 0 _ (by omega) (by omega) hv hm)
    · refine ST.lift (fun _ _ k => T_iconst (v := nI 1) d_Mo_isWire_86 (by decide) k) ?_
      refine ST.lift (fun _ _ k => T_goto (tgt := 91) d_Mo_isWire_87 rfl k) ?_
      exact S_ret d_Mo_isWire_91 rfl (nar_z (by omega)) (by decide) (by decide) (hQ 1 _ (by omega) (by omega) hv hm)
set_option maxRecDepth 100000 in
set_option maxHeartbeats 4000000 in
theorem c_Mo_wire_0_3 (G : GX) (v : Nat → Int32) (i : Nat) (b_i : i < 2147483648) (hv : okv v) : CS G mi_Mo_wire [.ref 373, .int (nI 0), .int (nI 3), .int (nI i)] v (fun r v' => ∃ z : Int32, r = some (.int z) ∧ okv v' ∧ mdf [66] v v') := by
  refine CS.of (by decide) (Nat.le_of_ble_eq_true rfl) ?_
  generalize hQe : (fun (r : Option Value) (v' : Nat → Int32) => ∃ z : Int32, r = some (.int z) ∧ okv v' ∧ mdf [66] v v') = Q
  have hQ : ∀ (z : Int32) (u : Nat → Int32), okv u → mdf [66] v u → Q (some (.int z)) u := by rw [← hQe]; exact fun z u h1 h2  => ⟨z, rfl, h1, h2⟩
  clear hQe
  have hm : mdf [66] v v := mdf.rf
  show ST G mi_Mo_wire 0 [(0, .ref 373), (1, .int (nI 0)), (2, .int (nI 3)), (3, .int (nI i))] [] v 0 0 Q
  refine ST.lift (fun _ _ k => T_aload_n (v := .ref 373) d_Mo_wire_0 rfl (Or.inr ⟨_, rfl⟩) k) ?_
  refine ST.lift (fun _ _ k => T_iconst (v := nI 0) d_Mo_wire_1 (by decide) k) ?_
  refine S_putfield (v' := va_up v 66 (nI 0)) d_Mo_wire_2 (fp_Mo_316 _) (w373 _) (Nat.le_of_ble_eq_true rfl) ⟨rfl, rfl⟩ (u373_0 _ _) ?_
  have hv2 := hv.off (j := 66) (x := (nI 0)) (by decide)
  have hm3 := hm.go (mdf.up (v := v) (j := 66) (x := (nI 0))) (by intro i hi; simp only [List.mem_cons, List.not_mem_nil, or_false] at hi ⊢ <;> omega)
  have e_u1 : (va_up v 66 (nI 0)) 66 = (nI 0) := by simp [va_up]
  generalize va_up v 66 (nI 0) = u1 at hv2 hm3 e_u1 ⊢
  refine ST.lift (fun _ _ k => T_aload_n (v := .ref 373) d_Mo_wire_5 rfl (Or.inr ⟨_, rfl⟩) k) ?_
  refine ST.lift (fun _ _ k => T_iload_n d_Mo_wire_6 rfl k) ?_
  refine ST.lift (fun _ _ k => T_iload_n d_Mo_wire_7 rfl k) ?_
  refine ST.lift (fun _ _ k => T_iload_n d_Mo_wire_8 rfl k) ?_
  refine S_virtual (as := [.int (nI 0), .int (nI 3), .int (nI i)]) (rest := []) (b := 373) d_Mo_wire_9 rfl (jw_Mo_isWire.jo (by decide)) lm_Mo_595 ji_Mo_isWire js_Mo_isWire (w373 _) rfl rfl rfl (Nat.le_of_ble_eq_true rfl) (by decide) (by decide) (c_Mo_isWire_0_3 G u1 i (by omega) hv2) (fun r u4 hq => ?_)
  obtain ⟨z7, hz7, hiz7, hr, hv5, hm6⟩ := hq
  rw [hr]
  clear hr r
  have hm8 := hm3.go hm6 (by intro i hi; simp only [List.mem_cons, List.not_mem_nil, or_false] at hi ⊢ <;> omega)
  have e9 : u4 66 = nI 0 := (hm6 66 (by decide)).trans e_u1
  show ST G mi_Mo_wire 12 [(0, .ref 373), (1, .int (nI 0)), (2, .int (nI 3)), (3, .int (nI i))] [.int (nI z7)] u4 0 0 _
  refine S_if_neN d_Mo_wire_12 rfl (by omega) (fun c10 => ?_) (fun c10 => ?_)
  · refine ST.lift (fun _ _ k => T_iload_n d_Mo_wire_22 rfl k) ?_
    refine ST.lift (fun _ _ k => T_iconst (v := nI 1) d_Mo_wire_23 (by decide) k) ?_
    refine S_icmp_neN d_Mo_wire_24 rfl (by omega) (by omega) (fun _ => ?_) (fun c => by first | exact absurd c (by omega) | exact c.elim | exact absurd c (by decide) | exact absurd (by assumption) c | exact absurd c (by assumption))
    refine ST.lift (fun _ _ k => T_iload_n d_Mo_wire_39 rfl k) ?_
    refine ST.lift (fun _ _ k => T_iconst (v := nI 2) d_Mo_wire_40 (by decide) k) ?_
    refine S_icmp_neN d_Mo_wire_41 rfl (by omega) (by omega) (fun _ => ?_) (fun c => by first | exact absurd c (by omega) | exact c.elim | exact absurd c (by decide) | exact absurd (by assumption) c | exact absurd c (by assumption))
    refine ST.lift (fun _ _ k => T_aload_n (v := .ref 373) d_Mo_wire_57 rfl (Or.inr ⟨_, rfl⟩) k) ?_
    refine S_getfield d_Mo_wire_58 fg_Mo_425 (w373 _) rfl ?_
    refine ST.lift (fun _ _ k => T_bipush (v := nI 64) d_Mo_wire_61 (by decide) k) ?_
    refine ST.lift (fun _ _ k => T_iload_n d_Mo_wire_63 rfl k) ?_
    refine S_imulN d_Mo_wire_64 ?_
    refine S_topi (y := nI 0) (by decide) ?_
    refine ST.lift (fun _ _ k => T_iload_n d_Mo_wire_65 rfl k) ?_
    refine S_iaddN d_Mo_wire_66 ?_
    refine S_iaload d_Mo_wire_67 a435 (vp_in_nI (by omega) (by omega)) (fun z11 => ?_)
    exact S_ret d_Mo_wire_68 rfl rfl (by decide) (by decide) (hQ _ _ hv5 hm8)
  · refine ST.lift (fun _ _ k => T_aload_n (v := .ref 373) d_Mo_wire_15 rfl (Or.inr ⟨_, rfl⟩) k) ?_
    refine ST.lift (fun _ _ k => T_iconst (v := nI 1) d_Mo_wire_16 (by decide) k) ?_
    refine S_putfield (v' := va_up u4 66 (nI 1)) d_Mo_wire_17 (fp_Mo_316 _) (w373 _) (Nat.le_of_ble_eq_true rfl) ⟨rfl, rfl⟩ (u373_0 _ _) ?_
    have hv13 := hv5.off (j := 66) (x := (nI 1)) (by decide)
    have hm14 := hm8.go (mdf.up (v := u4) (j := 66) (x := (nI 1))) (by intro i hi; simp only [List.mem_cons, List.not_mem_nil, or_false] at hi ⊢ <;> omega)
    have e_u12 : (va_up u4 66 (nI 1)) 66 = (nI 1) := by simp [va_up]
    generalize va_up u4 66 (nI 1) = u12 at hv13 hm14 e_u12 ⊢
    refine ST.lift (fun _ _ k => T_iconst (v := nI 0) d_Mo_wire_20 (by decide) k) ?_
    exact S_ret d_Mo_wire_21 rfl rfl (by decide) (by decide) (hQ _ _ hv13 hm14)
set_option maxRecDepth 100000 in
set_option maxHeartbeats 4000000 in
theorem c_Mo_tamper_0_3 (G : GX) (v : Nat → Int32) (i : Nat) (b_i : i < 2147483648) (mask : Int32) (hv : okv v) : CS G mi_Mo_tamper [.ref 373, .int (nI 0), .int (nI 3), .int (nI i), .int mask] v (fun r v' => ∃ z : Nat, z ≤ 1 ∧ r = some (.int (nI z)) ∧ okv v' ∧ mdf [66] v v') := by
  refine CS.of (by decide) (Nat.le_of_ble_eq_true rfl) ?_
  generalize hQe : (fun (r : Option Value) (v' : Nat → Int32) => ∃ z : Nat, z ≤ 1 ∧ r = some (.int (nI z)) ∧ okv v' ∧ mdf [66] v v') = Q
  have hQ : ∀ (z : Nat) (u : Nat → Int32), z ≤ 1 → okv u → mdf [66] v u → Q (some (.int (nI z))) u := by rw [← hQe]; exact fun z u hz h1 h2  => ⟨z, hz, rfl, h1, h2⟩
  clear hQe
  have hm : mdf [66] v v := mdf.rf
  show ST G mi_Mo_tamper 0 [(0, .ref 373), (1, .int (nI 0)), (2, .int (nI 3)), (3, .int (nI i)), (4, .int mask)] [] v 0 0 Q
  refine ST.lift (fun _ _ k => T_aload_n (v := .ref 373) d_Mo_tamper_0 rfl (Or.inr ⟨_, rfl⟩) k) ?_
  refine ST.lift (fun _ _ k => T_iconst (v := nI 0) d_Mo_tamper_1 (by decide) k) ?_
  refine S_putfield (v' := va_up v 66 (nI 0)) d_Mo_tamper_2 (fp_Mo_316 _) (w373 _) (Nat.le_of_ble_eq_true rfl) ⟨rfl, rfl⟩ (u373_0 _ _) ?_
  have hv2 := hv.off (j := 66) (x := (nI 0)) (by decide)
  have hm3 := hm.go (mdf.up (v := v) (j := 66) (x := (nI 0))) (by intro i hi; simp only [List.mem_cons, List.not_mem_nil, or_false] at hi ⊢ <;> omega)
  have e_u1 : (va_up v 66 (nI 0)) 66 = (nI 0) := by simp [va_up]
  generalize va_up v 66 (nI 0) = u1 at hv2 hm3 e_u1 ⊢
  refine ST.lift (fun _ _ k => T_aload_n (v := .ref 373) d_Mo_tamper_5 rfl (Or.inr ⟨_, rfl⟩) k) ?_
  refine ST.lift (fun _ _ k => T_iload_n d_Mo_tamper_6 rfl k) ?_
  refine ST.lift (fun _ _ k => T_iload_n d_Mo_tamper_7 rfl k) ?_
  refine ST.lift (fun _ _ k => T_iload_n d_Mo_tamper_8 rfl k) ?_
  refine S_virtual (as := [.int (nI 0), .int (nI 3), .int (nI i)]) (rest := []) (b := 373) d_Mo_tamper_9 rfl (jw_Mo_isWire.jo (by decide)) lm_Mo_595 ji_Mo_isWire js_Mo_isWire (w373 _) rfl rfl rfl (Nat.le_of_ble_eq_true rfl) (by decide) (by decide) (c_Mo_isWire_0_3 G u1 i (by omega) hv2) (fun r u4 hq => ?_)
  obtain ⟨z7, hz7, hiz7, hr, hv5, hm6⟩ := hq
  rw [hr]
  clear hr r
  have hm8 := hm3.go hm6 (by intro i hi; simp only [List.mem_cons, List.not_mem_nil, or_false] at hi ⊢ <;> omega)
  have e9 : u4 66 = nI 0 := (hm6 66 (by decide)).trans e_u1
  show ST G mi_Mo_tamper 12 [(0, .ref 373), (1, .int (nI 0)), (2, .int (nI 3)), (3, .int (nI i)), (4, .int mask)] [.int (nI z7)] u4 0 0 _
  refine S_if_neN d_Mo_tamper_12 rfl (by omega) (fun c10 => ?_) (fun c10 => ?_)
  · refine ST.lift (fun _ _ k => T_iload_n d_Mo_tamper_17 rfl k) ?_
    refine ST.lift (fun _ _ k => T_iconst (v := nI 1) d_Mo_tamper_18 (by decide) k) ?_
    refine S_icmp_neN d_Mo_tamper_19 rfl (by omega) (by omega) (fun _ => ?_) (fun c => by first | exact absurd c (by omega) | exact c.elim | exact absurd c (by decide) | exact absurd (by assumption) c | exact absurd c (by assumption))
    refine ST.lift (fun _ _ k => T_iload_n d_Mo_tamper_42 rfl k) ?_
    refine ST.lift (fun _ _ k => T_iconst (v := nI 2) d_Mo_tamper_43 (by decide) k) ?_
    refine S_icmp_neN d_Mo_tamper_44 rfl (by omega) (by omega) (fun _ => ?_) (fun c => by first | exact absurd c (by omega) | exact c.elim | exact absurd c (by decide) | exact absurd (by assumption) c | exact absurd c (by assumption))
    refine ST.lift (fun _ _ k => T_iload_n d_Mo_tamper_68 rfl k) ?_
    refine ST.lift (fun _ _ k => T_iconst (v := nI 3) d_Mo_tamper_69 (by decide) k) ?_
    refine S_icmp_neN d_Mo_tamper_70 rfl (by omega) (by omega) (fun c => by first | exact absurd c (by omega) | exact c.elim | exact absurd c (by decide) | exact absurd (by assumption) c | exact absurd c (by assumption)) (fun _ => ?_)
    refine ST.lift (fun _ _ k => T_aload_n (v := .ref 373) d_Mo_tamper_73 rfl (Or.inr ⟨_, rfl⟩) k) ?_
    refine S_getfield d_Mo_tamper_74 fg_Mo_425 (w373 _) rfl ?_
    refine ST.lift (fun _ _ k => T_bipush (v := nI 64) d_Mo_tamper_77 (by decide) k) ?_
    refine ST.lift (fun _ _ k => T_iload_n d_Mo_tamper_79 rfl k) ?_
    refine S_imulN d_Mo_tamper_80 ?_
    refine S_topi (y := nI 0) (by decide) ?_
    refine ST.lift (fun _ _ k => T_iload_n d_Mo_tamper_81 rfl k) ?_
    refine S_iaddN d_Mo_tamper_82 ?_
    refine ST.lift (fun _ _ k => T_dup2 d_Mo_tamper_83 rfl rfl k) ?_
    refine S_iaload d_Mo_tamper_84 a435 (vp_in_nI (by omega) (by omega)) (fun z11 => ?_)
    refine ST.lift (fun _ _ k => T_iload d_Mo_tamper_85 rfl k) ?_
    refine ST.lift (fun _ _ k => T_sipush (v := nI 255) d_Mo_tamper_87 (by decide) k) ?_
    refine S_iandM 8 d_Mo_tamper_90 (by decide) (by decide) (fun j12 hj12 => ?_)
    simp only [Nat.reducePow] at hj12
    refine ST.lift (fun _ _ k => T_ixor d_Mo_tamper_91 k) (S_anyi fun z13 => ?_)
    refine S_iastore d_Mo_tamper_92 (by decide) a435 (vp_in_nI (by omega) (by omega)) ?_
    refine ST.lift (fun _ _ k => T_iconst (v := nI 1) d_Mo_tamper_93 (by decide) k) ?_
    exact S_ret d_Mo_tamper_94 rfl (nar_z (by omega)) (by decide) (by decide) (hQ 1 _ (by omega) hv5 hm8)
  · refine ST.lift (fun _ _ k => T_iconst (v := nI 0) d_Mo_tamper_15 (by decide) k) ?_
    exact S_ret d_Mo_tamper_16 rfl (nar_z (by omega)) (by decide) (by decide) (hQ 0 _ (by omega) hv5 hm8)
set_option maxRecDepth 100000 in
set_option maxHeartbeats 4000000 in
theorem c_Mo_isWire_1_1 (G : GX) (v : Nat → Int32) (i : Nat) (b_i : i < 2147483648) (hv : okv v) : CS G mi_Mo_isWire [.ref 373, .int (nI 1), .int (nI 1), .int (nI i)] v (fun r v' => ∃ z : Nat, z ≤ 1 ∧ (z = 1 → i < 96) ∧ r = some (.int (nI z)) ∧ okv v' ∧ mdf [] v v') := by
  refine CS.of (by decide) (Nat.le_of_ble_eq_true rfl) ?_
  generalize hQe : (fun (r : Option Value) (v' : Nat → Int32) => ∃ z : Nat, z ≤ 1 ∧ (z = 1 → i < 96) ∧ r = some (.int (nI z)) ∧ okv v' ∧ mdf [] v v') = Q
  have hQ : ∀ (z : Nat) (u : Nat → Int32), z ≤ 1 → (z = 1 → i < 96) → okv u → mdf [] v u → Q (some (.int (nI z))) u := by rw [← hQe]; exact fun z u hz hi h1 h2  => ⟨z, hz, hi, rfl, h1, h2⟩
  clear hQe
  have hm : mdf [] v v := mdf.rf
  show ST G mi_Mo_isWire 0 [(0, .ref 373), (1, .int (nI 1)), (2, .int (nI 1)), (3, .int (nI i))] [] v 0 0 Q
  refine ST.lift (fun _ _ k => T_iload_n d_Mo_isWire_0 rfl k) ?_
  refine S_static (as := [.int (nI 1)]) (rest := []) d_Mo_isWire_1 rfl (jw_Mo_isSession.jo (by decide)) lm_Mo_545 jt_Mo_isSession rfl (Nat.le_of_ble_eq_true rfl) (by decide) (by decide) (c_Mo_isSession G v 1 (by omega)) (fun r v' hq => ?_)
  rw [hq.1, hq.2]
  clear hq r v'
  show ST G mi_Mo_isWire 4 [(0, .ref 373), (1, .int (nI 1)), (2, .int (nI 1)), (3, .int (nI i))] [.int (nI 1)] v 0 0 _
  refine S_if_eqN d_Mo_isWire_4 rfl (by omega) (fun c => by first | exact absurd c (by omega) | exact c.elim | exact absurd c (by decide) | exact absurd (by assumption) c | exact absurd c (by assumption)) (fun _ => ?_)
  refine ST.lift (fun _ _ k => T_iload_n d_Mo_isWire_7 rfl k) ?_
  refine S_if_geN d_Mo_isWire_8 rfl (by omega) (fun _ => ?_) (fun c => by first | exact absurd c (by omega) | exact c.elim | exact absurd c (by decide) | exact absurd (by assumption) c | exact absurd c (by assumption))
  refine ST.lift (fun _ _ k => T_iload_n d_Mo_isWire_13 rfl k) ?_
  refine ST.lift (fun _ _ k => T_iconst (v := nI 1) d_Mo_isWire_14 (by decide) k) ?_
  refine S_icmp_neN d_Mo_isWire_15 rfl (by omega) (by omega) (fun c => by first | exact absurd c (by omega) | exact c.elim | exact absurd c (by decide) | exact absurd (by assumption) c | exact absurd c (by assumption)) (fun _ => ?_)
  refine ST.lift (fun _ _ k => T_aload_n (v := .ref 373) d_Mo_isWire_18 rfl (Or.inr ⟨_, rfl⟩) k) ?_
  refine S_getfield d_Mo_isWire_19 fg_Mo_392 (w373 _) rfl ?_
  refine ST.lift (fun _ _ k => T_iload_n d_Mo_isWire_22 rfl k) ?_
  refine S_xload (t := 3) (k := 1) (Or.inr ⟨rfl, d_Mo_isWire_23⟩) rfl (w424 _) (by decide) (by decide) ?_
  refine S_topi (y := v 97) rfl ?_
  refine S_if_eq d_Mo_isWire_24 rfl (fun c1 => ?_) (fun c1 => ?_)
  · refine ST.lift (fun _ _ k => T_iconst (v := nI 0) d_Mo_isWire_37 (by decide) k) ?_
    exact S_ret d_Mo_isWire_38 rfl (nar_z (by omega)) (by decide) (by decide) (hQ 0 _ (by omega) (by omega) hv hm)
  · refine ST.lift (fun _ _ k => T_iload_n d_Mo_isWire_27 rfl k) ?_
    refine ST.lift (fun _ _ k => T_bipush (v := nI 96) d_Mo_isWire_28 (by decide) k) ?_
    refine S_icmp_geN d_Mo_isWire_30 rfl (by omega) (by omega) (fun c2 => ?_) (fun c2 => ?_)
    · refine ST.lift (fun _ _ k => T_iconst (v := nI 0) d_Mo_isWire_37 (by decide) k) ?_
      exact S_ret d_Mo_isWire_38 rfl (nar_z (by omega)) (by decide) (by decide) (hQ 0 _ (by omega) (by omega) hv hm)
    · refine ST.lift (fun _ _ k => T_iconst (v := nI 1) d_Mo_isWire_33 (by decide) k) ?_
      refine ST.lift (fun _ _ k => T_goto (tgt := 38) d_Mo_isWire_34 rfl k) ?_
      exact S_ret d_Mo_isWire_38 rfl (nar_z (by omega)) (by decide) (by decide) (hQ 1 _ (by omega) (by omega) hv hm)
set_option maxRecDepth 100000 in
set_option maxHeartbeats 4000000 in
theorem c_Mo_wire_1_1 (G : GX) (v : Nat → Int32) (i : Nat) (b_i : i < 2147483648) (hv : okv v) : CS G mi_Mo_wire [.ref 373, .int (nI 1), .int (nI 1), .int (nI i)] v (fun r v' => ∃ z : Int32, r = some (.int z) ∧ okv v' ∧ mdf [66] v v') := by
  refine CS.of (by decide) (Nat.le_of_ble_eq_true rfl) ?_
  generalize hQe : (fun (r : Option Value) (v' : Nat → Int32) => ∃ z : Int32, r = some (.int z) ∧ okv v' ∧ mdf [66] v v') = Q
  have hQ : ∀ (z : Int32) (u : Nat → Int32), okv u → mdf [66] v u → Q (some (.int z)) u := by rw [← hQe]; exact fun z u h1 h2  => ⟨z, rfl, h1, h2⟩
  clear hQe
  have hm : mdf [66] v v := mdf.rf
  show ST G mi_Mo_wire 0 [(0, .ref 373), (1, .int (nI 1)), (2, .int (nI 1)), (3, .int (nI i))] [] v 0 0 Q
  refine ST.lift (fun _ _ k => T_aload_n (v := .ref 373) d_Mo_wire_0 rfl (Or.inr ⟨_, rfl⟩) k) ?_
  refine ST.lift (fun _ _ k => T_iconst (v := nI 0) d_Mo_wire_1 (by decide) k) ?_
  refine S_putfield (v' := va_up v 66 (nI 0)) d_Mo_wire_2 (fp_Mo_316 _) (w373 _) (Nat.le_of_ble_eq_true rfl) ⟨rfl, rfl⟩ (u373_0 _ _) ?_
  have hv2 := hv.off (j := 66) (x := (nI 0)) (by decide)
  have hm3 := hm.go (mdf.up (v := v) (j := 66) (x := (nI 0))) (by intro i hi; simp only [List.mem_cons, List.not_mem_nil, or_false] at hi ⊢ <;> omega)
  have e_u1 : (va_up v 66 (nI 0)) 66 = (nI 0) := by simp [va_up]
  generalize va_up v 66 (nI 0) = u1 at hv2 hm3 e_u1 ⊢
  refine ST.lift (fun _ _ k => T_aload_n (v := .ref 373) d_Mo_wire_5 rfl (Or.inr ⟨_, rfl⟩) k) ?_
  refine ST.lift (fun _ _ k => T_iload_n d_Mo_wire_6 rfl k) ?_
  refine ST.lift (fun _ _ k => T_iload_n d_Mo_wire_7 rfl k) ?_
  refine ST.lift (fun _ _ k => T_iload_n d_Mo_wire_8 rfl k) ?_
  refine S_virtual (as := [.int (nI 1), .int (nI 1), .int (nI i)]) (rest := []) (b := 373) d_Mo_wire_9 rfl (jw_Mo_isWire.jo (by decide)) lm_Mo_595 ji_Mo_isWire js_Mo_isWire (w373 _) rfl rfl rfl (Nat.le_of_ble_eq_true rfl) (by decide) (by decide) (c_Mo_isWire_1_1 G u1 i (by omega) hv2) (fun r u4 hq => ?_)
  obtain ⟨z7, hz7, hiz7, hr, hv5, hm6⟩ := hq
  rw [hr]
  clear hr r
  have hm8 := hm3.go hm6 (by intro i hi; simp only [List.mem_cons, List.not_mem_nil, or_false] at hi ⊢ <;> omega)
  have e9 : u4 66 = nI 0 := (hm6 66 (by decide)).trans e_u1
  show ST G mi_Mo_wire 12 [(0, .ref 373), (1, .int (nI 1)), (2, .int (nI 1)), (3, .int (nI i))] [.int (nI z7)] u4 0 0 _
  refine S_if_neN d_Mo_wire_12 rfl (by omega) (fun c10 => ?_) (fun c10 => ?_)
  · refine ST.lift (fun _ _ k => T_iload_n d_Mo_wire_22 rfl k) ?_
    refine ST.lift (fun _ _ k => T_iconst (v := nI 1) d_Mo_wire_23 (by decide) k) ?_
    refine S_icmp_neN d_Mo_wire_24 rfl (by omega) (by omega) (fun c => by first | exact absurd c (by omega) | exact c.elim | exact absurd c (by decide) | exact absurd (by assumption) c | exact absurd c (by assumption)) (fun _ => ?_)
    refine ST.lift (fun _ _ k => T_aload_n (v := .ref 373) d_Mo_wire_27 rfl (Or.inr ⟨_, rfl⟩) k) ?_
    refine S_getfield d_Mo_wire_28 fg_Mo_419 (w373 _) rfl ?_
    refine ST.lift (fun _ _ k => T_bipush (v := nI 96) d_Mo_wire_31 (by decide) k) ?_
    refine ST.lift (fun _ _ k => T_iload_n d_Mo_wire_33 rfl k) ?_
    refine S_imulN d_Mo_wire_34 ?_
    refine S_topi (y := nI 96) (by decide) ?_
    refine ST.lift (fun _ _ k => T_iload_n d_Mo_wire_35 rfl k) ?_
    refine S_iaddN d_Mo_wire_36 ?_
    refine S_iaload d_Mo_wire_37 a433 (vp_in_nI (by omega) (by omega)) (fun z11 => ?_)
    exact S_ret d_Mo_wire_38 rfl rfl (by decide) (by decide) (hQ _ _ hv5 hm8)
  · refine ST.lift (fun _ _ k => T_aload_n (v := .ref 373) d_Mo_wire_15 rfl (Or.inr ⟨_, rfl⟩) k) ?_
    refine ST.lift (fun _ _ k => T_iconst (v := nI 1) d_Mo_wire_16 (by decide) k) ?_
    refine S_putfield (v' := va_up u4 66 (nI 1)) d_Mo_wire_17 (fp_Mo_316 _) (w373 _) (Nat.le_of_ble_eq_true rfl) ⟨rfl, rfl⟩ (u373_0 _ _) ?_
    have hv13 := hv5.off (j := 66) (x := (nI 1)) (by decide)
    have hm14 := hm8.go (mdf.up (v := u4) (j := 66) (x := (nI 1))) (by intro i hi; simp only [List.mem_cons, List.not_mem_nil, or_false] at hi ⊢ <;> omega)
    have e_u12 : (va_up u4 66 (nI 1)) 66 = (nI 1) := by simp [va_up]
    generalize va_up u4 66 (nI 1) = u12 at hv13 hm14 e_u12 ⊢
    refine ST.lift (fun _ _ k => T_iconst (v := nI 0) d_Mo_wire_20 (by decide) k) ?_
    exact S_ret d_Mo_wire_21 rfl rfl (by decide) (by decide) (hQ _ _ hv13 hm14)
set_option maxRecDepth 100000 in
set_option maxHeartbeats 4000000 in
theorem c_Mo_tamper_1_1 (G : GX) (v : Nat → Int32) (i : Nat) (b_i : i < 2147483648) (mask : Int32) (hv : okv v) : CS G mi_Mo_tamper [.ref 373, .int (nI 1), .int (nI 1), .int (nI i), .int mask] v (fun r v' => ∃ z : Nat, z ≤ 1 ∧ r = some (.int (nI z)) ∧ okv v' ∧ mdf [66] v v') := by
  refine CS.of (by decide) (Nat.le_of_ble_eq_true rfl) ?_
  generalize hQe : (fun (r : Option Value) (v' : Nat → Int32) => ∃ z : Nat, z ≤ 1 ∧ r = some (.int (nI z)) ∧ okv v' ∧ mdf [66] v v') = Q
  have hQ : ∀ (z : Nat) (u : Nat → Int32), z ≤ 1 → okv u → mdf [66] v u → Q (some (.int (nI z))) u := by rw [← hQe]; exact fun z u hz h1 h2  => ⟨z, hz, rfl, h1, h2⟩
  clear hQe
  have hm : mdf [66] v v := mdf.rf
  show ST G mi_Mo_tamper 0 [(0, .ref 373), (1, .int (nI 1)), (2, .int (nI 1)), (3, .int (nI i)), (4, .int mask)] [] v 0 0 Q
  refine ST.lift (fun _ _ k => T_aload_n (v := .ref 373) d_Mo_tamper_0 rfl (Or.inr ⟨_, rfl⟩) k) ?_
  refine ST.lift (fun _ _ k => T_iconst (v := nI 0) d_Mo_tamper_1 (by decide) k) ?_
  refine S_putfield (v' := va_up v 66 (nI 0)) d_Mo_tamper_2 (fp_Mo_316 _) (w373 _) (Nat.le_of_ble_eq_true rfl) ⟨rfl, rfl⟩ (u373_0 _ _) ?_
  have hv2 := hv.off (j := 66) (x := (nI 0)) (by decide)
  have hm3 := hm.go (mdf.up (v := v) (j := 66) (x := (nI 0))) (by intro i hi; simp only [List.mem_cons, List.not_mem_nil, or_false] at hi ⊢ <;> omega)
  have e_u1 : (va_up v 66 (nI 0)) 66 = (nI 0) := by simp [va_up]
  generalize va_up v 66 (nI 0) = u1 at hv2 hm3 e_u1 ⊢
  refine ST.lift (fun _ _ k => T_aload_n (v := .ref 373) d_Mo_tamper_5 rfl (Or.inr ⟨_, rfl⟩) k) ?_
  refine ST.lift (fun _ _ k => T_iload_n d_Mo_tamper_6 rfl k) ?_
  refine ST.lift (fun _ _ k => T_iload_n d_Mo_tamper_7 rfl k) ?_
  refine ST.lift (fun _ _ k => T_iload_n d_Mo_tamper_8 rfl k) ?_
  refine S_virtual (as := [.int (nI 1), .int (nI 1), .int (nI i)]) (rest := []) (b := 373) d_Mo_tamper_9 rfl (jw_Mo_isWire.jo (by decide)) lm_Mo_595 ji_Mo_isWire js_Mo_isWire (w373 _) rfl rfl rfl (Nat.le_of_ble_eq_true rfl) (by decide) (by decide) (c_Mo_isWire_1_1 G u1 i (by omega) hv2) (fun r u4 hq => ?_)
  obtain ⟨z7, hz7, hiz7, hr, hv5, hm6⟩ := hq
  rw [hr]
  clear hr r
  have hm8 := hm3.go hm6 (by intro i hi; simp only [List.mem_cons, List.not_mem_nil, or_false] at hi ⊢ <;> omega)
  have e9 : u4 66 = nI 0 := (hm6 66 (by decide)).trans e_u1
  show ST G mi_Mo_tamper 12 [(0, .ref 373), (1, .int (nI 1)), (2, .int (nI 1)), (3, .int (nI i)), (4, .int mask)] [.int (nI z7)] u4 0 0 _
  refine S_if_neN d_Mo_tamper_12 rfl (by omega) (fun c10 => ?_) (fun c10 => ?_)
  · refine ST.lift (fun _ _ k => T_iload_n d_Mo_tamper_17 rfl k) ?_
    refine ST.lift (fun _ _ k => T_iconst (v := nI 1) d_Mo_tamper_18 (by decide) k) ?_
    refine S_icmp_neN d_Mo_tamper_19 rfl (by omega) (by omega) (fun c => by first | exact absurd c (by omega) | exact c.elim | exact absurd c (by decide) | exact absurd (by assumption) c | exact absurd c (by assumption)) (fun _ => ?_)
    refine ST.lift (fun _ _ k => T_aload_n (v := .ref 373) d_Mo_tamper_22 rfl (Or.inr ⟨_, rfl⟩) k) ?_
    refine S_getfield d_Mo_tamper_23 fg_Mo_419 (w373 _) rfl ?_
    refine ST.lift (fun _ _ k => T_bipush (v := nI 96) d_Mo_tamper_26 (by decide) k) ?_
    refine ST.lift (fun _ _ k => T_iload_n d_Mo_tamper_28 rfl k) ?_
    refine S_imulN d_Mo_tamper_29 ?_
    refine S_topi (y := nI 96) (by decide) ?_
    refine ST.lift (fun _ _ k => T_iload_n d_Mo_tamper_30 rfl k) ?_
    refine S_iaddN d_Mo_tamper_31 ?_
    refine ST.lift (fun _ _ k => T_dup2 d_Mo_tamper_32 rfl rfl k) ?_
    refine S_iaload d_Mo_tamper_33 a433 (vp_in_nI (by omega) (by omega)) (fun z11 => ?_)
    refine ST.lift (fun _ _ k => T_iload d_Mo_tamper_34 rfl k) ?_
    refine ST.lift (fun _ _ k => T_sipush (v := nI 255) d_Mo_tamper_36 (by decide) k) ?_
    refine S_iandM 8 d_Mo_tamper_39 (by decide) (by decide) (fun j12 hj12 => ?_)
    simp only [Nat.reducePow] at hj12
    refine ST.lift (fun _ _ k => T_ixor d_Mo_tamper_40 k) (S_anyi fun z13 => ?_)
    refine S_iastore d_Mo_tamper_41 (by decide) a433 (vp_in_nI (by omega) (by omega)) ?_
    refine ST.lift (fun _ _ k => T_iload_n d_Mo_tamper_42 rfl k) ?_
    refine ST.lift (fun _ _ k => T_iconst (v := nI 2) d_Mo_tamper_43 (by decide) k) ?_
    refine S_icmp_neN d_Mo_tamper_44 rfl (by omega) (by omega) (fun _ => ?_) (fun c => by first | exact absurd c (by omega) | exact c.elim | exact absurd c (by decide) | exact absurd (by assumption) c | exact absurd c (by assumption))
    refine ST.lift (fun _ _ k => T_iload_n d_Mo_tamper_68 rfl k) ?_
    refine ST.lift (fun _ _ k => T_iconst (v := nI 3) d_Mo_tamper_69 (by decide) k) ?_
    refine S_icmp_neN d_Mo_tamper_70 rfl (by omega) (by omega) (fun _ => ?_) (fun c => by first | exact absurd c (by omega) | exact c.elim | exact absurd c (by decide) | exact absurd (by assumption) c | exact absurd c (by assumption))
    refine ST.lift (fun _ _ k => T_iconst (v := nI 1) d_Mo_tamper_93 (by decide) k) ?_
    exact S_ret d_Mo_tamper_94 rfl (nar_z (by omega)) (by decide) (by decide) (hQ 1 _ (by omega) hv5 hm8)
  · refine ST.lift (fun _ _ k => T_iconst (v := nI 0) d_Mo_tamper_15 (by decide) k) ?_
    exact S_ret d_Mo_tamper_16 rfl (nar_z (by omega)) (by decide) (by decide) (hQ 0 _ (by omega) hv5 hm8)
set_option maxRecDepth 100000 in
set_option maxHeartbeats 4000000 in
theorem c_Mo_isWire_1_2 (G : GX) (v : Nat → Int32) (i : Nat) (b_i : i < 2147483648) (hv : okv v) : CS G mi_Mo_isWire [.ref 373, .int (nI 1), .int (nI 2), .int (nI i)] v (fun r v' => ∃ z : Nat, z ≤ 1 ∧ (z = 1 → i < 320) ∧ r = some (.int (nI z)) ∧ okv v' ∧ mdf [] v v') := by
  refine CS.of (by decide) (Nat.le_of_ble_eq_true rfl) ?_
  generalize hQe : (fun (r : Option Value) (v' : Nat → Int32) => ∃ z : Nat, z ≤ 1 ∧ (z = 1 → i < 320) ∧ r = some (.int (nI z)) ∧ okv v' ∧ mdf [] v v') = Q
  have hQ : ∀ (z : Nat) (u : Nat → Int32), z ≤ 1 → (z = 1 → i < 320) → okv u → mdf [] v u → Q (some (.int (nI z))) u := by rw [← hQe]; exact fun z u hz hi h1 h2  => ⟨z, hz, hi, rfl, h1, h2⟩
  clear hQe
  have hm : mdf [] v v := mdf.rf
  show ST G mi_Mo_isWire 0 [(0, .ref 373), (1, .int (nI 1)), (2, .int (nI 2)), (3, .int (nI i))] [] v 0 0 Q
  refine ST.lift (fun _ _ k => T_iload_n d_Mo_isWire_0 rfl k) ?_
  refine S_static (as := [.int (nI 1)]) (rest := []) d_Mo_isWire_1 rfl (jw_Mo_isSession.jo (by decide)) lm_Mo_545 jt_Mo_isSession rfl (Nat.le_of_ble_eq_true rfl) (by decide) (by decide) (c_Mo_isSession G v 1 (by omega)) (fun r v' hq => ?_)
  rw [hq.1, hq.2]
  clear hq r v'
  show ST G mi_Mo_isWire 4 [(0, .ref 373), (1, .int (nI 1)), (2, .int (nI 2)), (3, .int (nI i))] [.int (nI 1)] v 0 0 _
  refine S_if_eqN d_Mo_isWire_4 rfl (by omega) (fun c => by first | exact absurd c (by omega) | exact c.elim | exact absurd c (by decide) | exact absurd (by assumption) c | exact absurd c (by assumption)) (fun _ => ?_)
  refine ST.lift (fun _ _ k => T_iload_n d_Mo_isWire_7 rfl k) ?_
  refine S_if_geN d_Mo_isWire_8 rfl (by omega) (fun _ => ?_) (fun c => by first | exact absurd c (by omega) | exact c.elim | exact absurd c (by decide) | exact absurd (by assumption) c | exact absurd c (by assumption))
  refine ST.lift (fun _ _ k => T_iload_n d_Mo_isWire_13 rfl k) ?_
  refine ST.lift (fun _ _ k => T_iconst (v := nI 1) d_Mo_isWire_14 (by decide) k) ?_
  refine S_icmp_neN d_Mo_isWire_15 rfl (by omega) (by omega) (fun _ => ?_) (fun c => by first | exact absurd c (by omega) | exact c.elim | exact absurd c (by decide) | exact absurd (by assumption) c | exact absurd c (by assumption))
  refine ST.lift (fun _ _ k => T_iload_n d_Mo_isWire_39 rfl k) ?_
  refine ST.lift (fun _ _ k => T_iconst (v := nI 2) d_Mo_isWire_40 (by decide) k) ?_
  refine S_icmp_neN d_Mo_isWire_41 rfl (by omega) (by omega) (fun c => by first | exact absurd c (by omega) | exact c.elim | exact absurd c (by decide) | exact absurd (by assumption) c | exact absurd c (by assumption)) (fun _ => ?_)
  refine ST.lift (fun _ _ k => T_aload_n (v := .ref 373) d_Mo_isWire_44 rfl (Or.inr ⟨_, rfl⟩) k) ?_
  refine S_getfield d_Mo_isWire_45 fg_Mo_395 (w373 _) rfl ?_
  refine ST.lift (fun _ _ k => T_iload_n d_Mo_isWire_48 rfl k) ?_
  refine S_xload (t := 3) (k := 1) (Or.inr ⟨rfl, d_Mo_isWire_49⟩) rfl (w425 _) (by decide) (by decide) ?_
  refine S_topi (y := v 101) rfl ?_
  refine S_if_eq d_Mo_isWire_50 rfl (fun c1 => ?_) (fun c1 => ?_)
  · refine ST.lift (fun _ _ k => T_iconst (v := nI 0) d_Mo_isWire_64 (by decide) k) ?_
    exact S_ret d_Mo_isWire_65 rfl (nar_z (by omega)) (by decide) (by decide) (hQ 0 _ (by omega) (by omega) hv hm)
  · refine ST.lift (fun _ _ k => T_iload_n d_Mo_isWire_53 rfl k) ?_
    refine ST.lift (fun _ _ k => T_sipush (v := nI 320) d_Mo_isWire_54 (by decide) k) ?_
    refine S_icmp_geN d_Mo_isWire_57 rfl (by omega) (by omega) (fun c2 => ?_) (fun c2 => ?_)
    · refine ST.lift (fun _ _ k => T_iconst (v := nI 0) d_Mo_isWire_64 (by decide) k) ?_
      exact S_ret d_Mo_isWire_65 rfl (nar_z (by omega)) (by decide) (by decide) (hQ 0 _ (by omega) (by omega) hv hm)
    · refine ST.lift (fun _ _ k => T_iconst (v := nI 1) d_Mo_isWire_60 (by decide) k) ?_
      refine ST.lift (fun _ _ k => T_goto (tgt := 65) d_Mo_isWire_61 rfl k) ?_
      exact S_ret d_Mo_isWire_65 rfl (nar_z (by omega)) (by decide) (by decide) (hQ 1 _ (by omega) (by omega) hv hm)
set_option maxRecDepth 100000 in
set_option maxHeartbeats 4000000 in
theorem c_Mo_wire_1_2 (G : GX) (v : Nat → Int32) (i : Nat) (b_i : i < 2147483648) (hv : okv v) : CS G mi_Mo_wire [.ref 373, .int (nI 1), .int (nI 2), .int (nI i)] v (fun r v' => ∃ z : Int32, r = some (.int z) ∧ okv v' ∧ mdf [66] v v') := by
  refine CS.of (by decide) (Nat.le_of_ble_eq_true rfl) ?_
  generalize hQe : (fun (r : Option Value) (v' : Nat → Int32) => ∃ z : Int32, r = some (.int z) ∧ okv v' ∧ mdf [66] v v') = Q
  have hQ : ∀ (z : Int32) (u : Nat → Int32), okv u → mdf [66] v u → Q (some (.int z)) u := by rw [← hQe]; exact fun z u h1 h2  => ⟨z, rfl, h1, h2⟩
  clear hQe
  have hm : mdf [66] v v := mdf.rf
  show ST G mi_Mo_wire 0 [(0, .ref 373), (1, .int (nI 1)), (2, .int (nI 2)), (3, .int (nI i))] [] v 0 0 Q
  refine ST.lift (fun _ _ k => T_aload_n (v := .ref 373) d_Mo_wire_0 rfl (Or.inr ⟨_, rfl⟩) k) ?_
  refine ST.lift (fun _ _ k => T_iconst (v := nI 0) d_Mo_wire_1 (by decide) k) ?_
  refine S_putfield (v' := va_up v 66 (nI 0)) d_Mo_wire_2 (fp_Mo_316 _) (w373 _) (Nat.le_of_ble_eq_true rfl) ⟨rfl, rfl⟩ (u373_0 _ _) ?_
  have hv2 := hv.off (j := 66) (x := (nI 0)) (by decide)
  have hm3 := hm.go (mdf.up (v := v) (j := 66) (x := (nI 0))) (by intro i hi; simp only [List.mem_cons, List.not_mem_nil, or_false] at hi ⊢ <;> omega)
  have e_u1 : (va_up v 66 (nI 0)) 66 = (nI 0) := by simp [va_up]
  generalize va_up v 66 (nI 0) = u1 at hv2 hm3 e_u1 ⊢
  refine ST.lift (fun _ _ k => T_aload_n (v := .ref 373) d_Mo_wire_5 rfl (Or.inr ⟨_, rfl⟩) k) ?_
  refine ST.lift (fun _ _ k => T_iload_n d_Mo_wire_6 rfl k) ?_
  refine ST.lift (fun _ _ k => T_iload_n d_Mo_wire_7 rfl k) ?_
  refine ST.lift (fun _ _ k => T_iload_n d_Mo_wire_8 rfl k) ?_
  refine S_virtual (as := [.int (nI 1), .int (nI 2), .int (nI i)]) (rest := []) (b := 373) d_Mo_wire_9 rfl (jw_Mo_isWire.jo (by decide)) lm_Mo_595 ji_Mo_isWire js_Mo_isWire (w373 _) rfl rfl rfl (Nat.le_of_ble_eq_true rfl) (by decide) (by decide) (c_Mo_isWire_1_2 G u1 i (by omega) hv2) (fun r u4 hq => ?_)
  obtain ⟨z7, hz7, hiz7, hr, hv5, hm6⟩ := hq
  rw [hr]
  clear hr r
  have hm8 := hm3.go hm6 (by intro i hi; simp only [List.mem_cons, List.not_mem_nil, or_false] at hi ⊢ <;> omega)
  have e9 : u4 66 = nI 0 := (hm6 66 (by decide)).trans e_u1
  show ST G mi_Mo_wire 12 [(0, .ref 373), (1, .int (nI 1)), (2, .int (nI 2)), (3, .int (nI i))] [.int (nI z7)] u4 0 0 _
  refine S_if_neN d_Mo_wire_12 rfl (by omega) (fun c10 => ?_) (fun c10 => ?_)
  · refine ST.lift (fun _ _ k => T_iload_n d_Mo_wire_22 rfl k) ?_
    refine ST.lift (fun _ _ k => T_iconst (v := nI 1) d_Mo_wire_23 (by decide) k) ?_
    refine S_icmp_neN d_Mo_wire_24 rfl (by omega) (by omega) (fun _ => ?_) (fun c => by first | exact absurd c (by omega) | exact c.elim | exact absurd c (by decide) | exact absurd (by assumption) c | exact absurd c (by assumption))
    refine ST.lift (fun _ _ k => T_iload_n d_Mo_wire_39 rfl k) ?_
    refine ST.lift (fun _ _ k => T_iconst (v := nI 2) d_Mo_wire_40 (by decide) k) ?_
    refine S_icmp_neN d_Mo_wire_41 rfl (by omega) (by omega) (fun c => by first | exact absurd c (by omega) | exact c.elim | exact absurd c (by decide) | exact absurd (by assumption) c | exact absurd c (by assumption)) (fun _ => ?_)
    refine ST.lift (fun _ _ k => T_aload_n (v := .ref 373) d_Mo_wire_44 rfl (Or.inr ⟨_, rfl⟩) k) ?_
    refine S_getfield d_Mo_wire_45 fg_Mo_422 (w373 _) rfl ?_
    refine ST.lift (fun _ _ k => T_sipush (v := nI 320) d_Mo_wire_48 (by decide) k) ?_
    refine ST.lift (fun _ _ k => T_iload_n d_Mo_wire_51 rfl k) ?_
    refine S_imulN d_Mo_wire_52 ?_
    refine S_topi (y := nI 320) (by decide) ?_
    refine ST.lift (fun _ _ k => T_iload_n d_Mo_wire_53 rfl k) ?_
    refine S_iaddN d_Mo_wire_54 ?_
    refine S_iaload d_Mo_wire_55 a434 (vp_in_nI (by omega) (by omega)) (fun z11 => ?_)
    exact S_ret d_Mo_wire_56 rfl rfl (by decide) (by decide) (hQ _ _ hv5 hm8)
  · refine ST.lift (fun _ _ k => T_aload_n (v := .ref 373) d_Mo_wire_15 rfl (Or.inr ⟨_, rfl⟩) k) ?_
    refine ST.lift (fun _ _ k => T_iconst (v := nI 1) d_Mo_wire_16 (by decide) k) ?_
    refine S_putfield (v' := va_up u4 66 (nI 1)) d_Mo_wire_17 (fp_Mo_316 _) (w373 _) (Nat.le_of_ble_eq_true rfl) ⟨rfl, rfl⟩ (u373_0 _ _) ?_
    have hv13 := hv5.off (j := 66) (x := (nI 1)) (by decide)
    have hm14 := hm8.go (mdf.up (v := u4) (j := 66) (x := (nI 1))) (by intro i hi; simp only [List.mem_cons, List.not_mem_nil, or_false] at hi ⊢ <;> omega)
    have e_u12 : (va_up u4 66 (nI 1)) 66 = (nI 1) := by simp [va_up]
    generalize va_up u4 66 (nI 1) = u12 at hv13 hm14 e_u12 ⊢
    refine ST.lift (fun _ _ k => T_iconst (v := nI 0) d_Mo_wire_20 (by decide) k) ?_
    exact S_ret d_Mo_wire_21 rfl rfl (by decide) (by decide) (hQ _ _ hv13 hm14)
set_option maxRecDepth 100000 in
set_option maxHeartbeats 4000000 in
theorem c_Mo_tamper_1_2 (G : GX) (v : Nat → Int32) (i : Nat) (b_i : i < 2147483648) (mask : Int32) (hv : okv v) : CS G mi_Mo_tamper [.ref 373, .int (nI 1), .int (nI 2), .int (nI i), .int mask] v (fun r v' => ∃ z : Nat, z ≤ 1 ∧ r = some (.int (nI z)) ∧ okv v' ∧ mdf [66] v v') := by
  refine CS.of (by decide) (Nat.le_of_ble_eq_true rfl) ?_
  generalize hQe : (fun (r : Option Value) (v' : Nat → Int32) => ∃ z : Nat, z ≤ 1 ∧ r = some (.int (nI z)) ∧ okv v' ∧ mdf [66] v v') = Q
  have hQ : ∀ (z : Nat) (u : Nat → Int32), z ≤ 1 → okv u → mdf [66] v u → Q (some (.int (nI z))) u := by rw [← hQe]; exact fun z u hz h1 h2  => ⟨z, hz, rfl, h1, h2⟩
  clear hQe
  have hm : mdf [66] v v := mdf.rf
  show ST G mi_Mo_tamper 0 [(0, .ref 373), (1, .int (nI 1)), (2, .int (nI 2)), (3, .int (nI i)), (4, .int mask)] [] v 0 0 Q
  refine ST.lift (fun _ _ k => T_aload_n (v := .ref 373) d_Mo_tamper_0 rfl (Or.inr ⟨_, rfl⟩) k) ?_
  refine ST.lift (fun _ _ k => T_iconst (v := nI 0) d_Mo_tamper_1 (by decide) k) ?_
  refine S_putfield (v' := va_up v 66 (nI 0)) d_Mo_tamper_2 (fp_Mo_316 _) (w373 _) (Nat.le_of_ble_eq_true rfl) ⟨rfl, rfl⟩ (u373_0 _ _) ?_
  have hv2 := hv.off (j := 66) (x := (nI 0)) (by decide)
  have hm3 := hm.go (mdf.up (v := v) (j := 66) (x := (nI 0))) (by intro i hi; simp only [List.mem_cons, List.not_mem_nil, or_false] at hi ⊢ <;> omega)
  have e_u1 : (va_up v 66 (nI 0)) 66 = (nI 0) := by simp [va_up]
  generalize va_up v 66 (nI 0) = u1 at hv2 hm3 e_u1 ⊢
  refine ST.lift (fun _ _ k => T_aload_n (v := .ref 373) d_Mo_tamper_5 rfl (Or.inr ⟨_, rfl⟩) k) ?_
  refine ST.lift (fun _ _ k => T_iload_n d_Mo_tamper_6 rfl k) ?_
  refine ST.lift (fun _ _ k => T_iload_n d_Mo_tamper_7 rfl k) ?_
  refine ST.lift (fun _ _ k => T_iload_n d_Mo_tamper_8 rfl k) ?_
  refine S_virtual (as := [.int (nI 1), .int (nI 2), .int (nI i)]) (rest := []) (b := 373) d_Mo_tamper_9 rfl (jw_Mo_isWire.jo (by decide)) lm_Mo_595 ji_Mo_isWire js_Mo_isWire (w373 _) rfl rfl rfl (Nat.le_of_ble_eq_true rfl) (by decide) (by decide) (c_Mo_isWire_1_2 G u1 i (by omega) hv2) (fun r u4 hq => ?_)
  obtain ⟨z7, hz7, hiz7, hr, hv5, hm6⟩ := hq
  rw [hr]
  clear hr r
  have hm8 := hm3.go hm6 (by intro i hi; simp only [List.mem_cons, List.not_mem_nil, or_false] at hi ⊢ <;> omega)
  have e9 : u4 66 = nI 0 := (hm6 66 (by decide)).trans e_u1
  show ST G mi_Mo_tamper 12 [(0, .ref 373), (1, .int (nI 1)), (2, .int (nI 2)), (3, .int (nI i)), (4, .int mask)] [.int (nI z7)] u4 0 0 _
  refine S_if_neN d_Mo_tamper_12 rfl (by omega) (fun c10 => ?_) (fun c10 => ?_)
  · refine ST.lift (fun _ _ k => T_iload_n d_Mo_tamper_17 rfl k) ?_
    refine ST.lift (fun _ _ k => T_iconst (v := nI 1) d_Mo_tamper_18 (by decide) k) ?_
    refine S_icmp_neN d_Mo_tamper_19 rfl (by omega) (by omega) (fun _ => ?_) (fun c => by first | exact absurd c (by omega) | exact c.elim | exact absurd c (by decide) | exact absurd (by assumption) c | exact absurd c (by assumption))
    refine ST.lift (fun _ _ k => T_iload_n d_Mo_tamper_42 rfl k) ?_
    refine ST.lift (fun _ _ k => T_iconst (v := nI 2) d_Mo_tamper_43 (by decide) k) ?_
    refine S_icmp_neN d_Mo_tamper_44 rfl (by omega) (by omega) (fun c => by first | exact absurd c (by omega) | exact c.elim | exact absurd c (by decide) | exact absurd (by assumption) c | exact absurd c (by assumption)) (fun _ => ?_)
    refine ST.lift (fun _ _ k => T_aload_n (v := .ref 373) d_Mo_tamper_47 rfl (Or.inr ⟨_, rfl⟩) k) ?_
    refine S_getfield d_Mo_tamper_48 fg_Mo_422 (w373 _) rfl ?_
    refine ST.lift (fun _ _ k => T_sipush (v := nI 320) d_Mo_tamper_51 (by decide) k) ?_
    refine ST.lift (fun _ _ k => T_iload_n d_Mo_tamper_54 rfl k) ?_
    refine S_imulN d_Mo_tamper_55 ?_
    refine S_topi (y := nI 320) (by decide) ?_
    refine ST.lift (fun _ _ k => T_iload_n d_Mo_tamper_56 rfl k) ?_
    refine S_iaddN d_Mo_tamper_57 ?_
    refine ST.lift (fun _ _ k => T_dup2 d_Mo_tamper_58 rfl rfl k) ?_
    refine S_iaload d_Mo_tamper_59 a434 (vp_in_nI (by omega) (by omega)) (fun z11 => ?_)
    refine ST.lift (fun _ _ k => T_iload d_Mo_tamper_60 rfl k) ?_
    refine ST.lift (fun _ _ k => T_sipush (v := nI 255) d_Mo_tamper_62 (by decide) k) ?_
    refine S_iandM 8 d_Mo_tamper_65 (by decide) (by decide) (fun j12 hj12 => ?_)
    simp only [Nat.reducePow] at hj12
    refine ST.lift (fun _ _ k => T_ixor d_Mo_tamper_66 k) (S_anyi fun z13 => ?_)
    refine S_iastore d_Mo_tamper_67 (by decide) a434 (vp_in_nI (by omega) (by omega)) ?_
    refine ST.lift (fun _ _ k => T_iload_n d_Mo_tamper_68 rfl k) ?_
    refine ST.lift (fun _ _ k => T_iconst (v := nI 3) d_Mo_tamper_69 (by decide) k) ?_
    refine S_icmp_neN d_Mo_tamper_70 rfl (by omega) (by omega) (fun _ => ?_) (fun c => by first | exact absurd c (by omega) | exact c.elim | exact absurd c (by decide) | exact absurd (by assumption) c | exact absurd c (by assumption))
    refine ST.lift (fun _ _ k => T_iconst (v := nI 1) d_Mo_tamper_93 (by decide) k) ?_
    exact S_ret d_Mo_tamper_94 rfl (nar_z (by omega)) (by decide) (by decide) (hQ 1 _ (by omega) hv5 hm8)
  · refine ST.lift (fun _ _ k => T_iconst (v := nI 0) d_Mo_tamper_15 (by decide) k) ?_
    exact S_ret d_Mo_tamper_16 rfl (nar_z (by omega)) (by decide) (by decide) (hQ 0 _ (by omega) hv5 hm8)
set_option maxRecDepth 100000 in
set_option maxHeartbeats 4000000 in
theorem c_Mo_isWire_1_3 (G : GX) (v : Nat → Int32) (i : Nat) (b_i : i < 2147483648) (hv : okv v) : CS G mi_Mo_isWire [.ref 373, .int (nI 1), .int (nI 3), .int (nI i)] v (fun r v' => ∃ z : Nat, z ≤ 1 ∧ (z = 1 → i < 64) ∧ r = some (.int (nI z)) ∧ okv v' ∧ mdf [] v v') := by
  refine CS.of (by decide) (Nat.le_of_ble_eq_true rfl) ?_
  generalize hQe : (fun (r : Option Value) (v' : Nat → Int32) => ∃ z : Nat, z ≤ 1 ∧ (z = 1 → i < 64) ∧ r = some (.int (nI z)) ∧ okv v' ∧ mdf [] v v') = Q
  have hQ : ∀ (z : Nat) (u : Nat → Int32), z ≤ 1 → (z = 1 → i < 64) → okv u → mdf [] v u → Q (some (.int (nI z))) u := by rw [← hQe]; exact fun z u hz hi h1 h2  => ⟨z, hz, hi, rfl, h1, h2⟩
  clear hQe
  have hm : mdf [] v v := mdf.rf
  show ST G mi_Mo_isWire 0 [(0, .ref 373), (1, .int (nI 1)), (2, .int (nI 3)), (3, .int (nI i))] [] v 0 0 Q
  refine ST.lift (fun _ _ k => T_iload_n d_Mo_isWire_0 rfl k) ?_
  refine S_static (as := [.int (nI 1)]) (rest := []) d_Mo_isWire_1 rfl (jw_Mo_isSession.jo (by decide)) lm_Mo_545 jt_Mo_isSession rfl (Nat.le_of_ble_eq_true rfl) (by decide) (by decide) (c_Mo_isSession G v 1 (by omega)) (fun r v' hq => ?_)
  rw [hq.1, hq.2]
  clear hq r v'
  show ST G mi_Mo_isWire 4 [(0, .ref 373), (1, .int (nI 1)), (2, .int (nI 3)), (3, .int (nI i))] [.int (nI 1)] v 0 0 _
  refine S_if_eqN d_Mo_isWire_4 rfl (by omega) (fun c => by first | exact absurd c (by omega) | exact c.elim | exact absurd c (by decide) | exact absurd (by assumption) c | exact absurd c (by assumption)) (fun _ => ?_)
  refine ST.lift (fun _ _ k => T_iload_n d_Mo_isWire_7 rfl k) ?_
  refine S_if_geN d_Mo_isWire_8 rfl (by omega) (fun _ => ?_) (fun c => by first | exact absurd c (by omega) | exact c.elim | exact absurd c (by decide) | exact absurd (by assumption) c | exact absurd c (by assumption))
  refine ST.lift (fun _ _ k => T_iload_n d_Mo_isWire_13 rfl k) ?_
  refine ST.lift (fun _ _ k => T_iconst (v := nI 1) d_Mo_isWire_14 (by decide) k) ?_
  refine S_icmp_neN d_Mo_isWire_15 rfl (by omega) (by omega) (fun _ => ?_) (fun c => by first | exact absurd c (by omega) | exact c.elim | exact absurd c (by decide) | exact absurd (by assumption) c | exact absurd c (by assumption))
  refine ST.lift (fun _ _ k => T_iload_n d_Mo_isWire_39 rfl k) ?_
  refine ST.lift (fun _ _ k => T_iconst (v := nI 2) d_Mo_isWire_40 (by decide) k) ?_
  refine S_icmp_neN d_Mo_isWire_41 rfl (by omega) (by omega) (fun _ => ?_) (fun c => by first | exact absurd c (by omega) | exact c.elim | exact absurd c (by decide) | exact absurd (by assumption) c | exact absurd c (by assumption))
  refine ST.lift (fun _ _ k => T_iload_n d_Mo_isWire_66 rfl k) ?_
  refine ST.lift (fun _ _ k => T_iconst (v := nI 3) d_Mo_isWire_67 (by decide) k) ?_
  refine S_icmp_neN d_Mo_isWire_68 rfl (by omega) (by omega) (fun c => by first | exact absurd c (by omega) | exact c.elim | exact absurd c (by decide) | exact absurd (by assumption) c | exact absurd c (by assumption)) (fun _ => ?_)
  refine ST.lift (fun _ _ k => T_aload_n (v := .ref 373) d_Mo_isWire_71 rfl (Or.inr ⟨_, rfl⟩) k) ?_
  refine S_getfield d_Mo_isWire_72 fg_Mo_398 (w373 _) rfl ?_
  refine ST.lift (fun _ _ k => T_iload_n d_Mo_isWire_75 rfl k) ?_
  refine S_xload (t := 3) (k := 1) (Or.inr ⟨rfl, d_Mo_isWire_76⟩) rfl (w426 _) (by decide) (by decide) ?_
  refine S_topi (y := v 105) rfl ?_
  refine S_if_eq d_Mo_isWire_77 rfl (fun c1 => ?_) (fun c1 => ?_)
  · refine ST.lift (fun _ _ k => T_iconst (v := nI 0) d_Mo_isWire_90 (by decide) k) ?_
    exact S_ret d_Mo_isWire_91 rfl (nar_z (by omega)) (by decide) (by decide) (hQ 0 _ (by omega) (by omega) hv hm)
  · refine ST.lift (fun _ _ k => T_iload_n d_Mo_isWire_80 rfl k) ?_
    refine ST.lift (fun _ _ k => T_bipush (v := nI 64) d_Mo_isWire_81 (by decide) k) ?_
    refine S_icmp_geN d_Mo_isWire_83 rfl (by omega) (by omega) (fun c2 => ?_) (fun c2 => ?_)
    · refine ST.lift (fun _ _ k => T_iconst (v := nI 0) d_Mo_isWire_90 (by decide) k) ?_
      exact S_ret d_Mo_isWire_91 rfl (nar_z (by omega)) (by decide) (by decide) (hQ 0 _ (by omega) (by omega) hv hm)
    · refine ST.lift (fun _ _ k => T_iconst (v := nI 1) d_Mo_isWire_86 (by decide) k) ?_
      refine ST.lift (fun _ _ k => T_goto (tgt := 91) d_Mo_isWire_87 rfl k) ?_
      exact S_ret d_Mo_isWire_91 rfl (nar_z (by omega)) (by decide) (by decide) (hQ 1 _ (by omega) (by omega) hv hm)
set_option maxRecDepth 100000 in
set_option maxHeartbeats 4000000 in
theorem c_Mo_wire_1_3 (G : GX) (v : Nat → Int32) (i : Nat) (b_i : i < 2147483648) (hv : okv v) : CS G mi_Mo_wire [.ref 373, .int (nI 1), .int (nI 3), .int (nI i)] v (fun r v' => ∃ z : Int32, r = some (.int z) ∧ okv v' ∧ mdf [66] v v') := by
  refine CS.of (by decide) (Nat.le_of_ble_eq_true rfl) ?_
  generalize hQe : (fun (r : Option Value) (v' : Nat → Int32) => ∃ z : Int32, r = some (.int z) ∧ okv v' ∧ mdf [66] v v') = Q
  have hQ : ∀ (z : Int32) (u : Nat → Int32), okv u → mdf [66] v u → Q (some (.int z)) u := by rw [← hQe]; exact fun z u h1 h2  => ⟨z, rfl, h1, h2⟩
  clear hQe
  have hm : mdf [66] v v := mdf.rf
  show ST G mi_Mo_wire 0 [(0, .ref 373), (1, .int (nI 1)), (2, .int (nI 3)), (3, .int (nI i))] [] v 0 0 Q
  refine ST.lift (fun _ _ k => T_aload_n (v := .ref 373) d_Mo_wire_0 rfl (Or.inr ⟨_, rfl⟩) k) ?_
  refine ST.lift (fun _ _ k => T_iconst (v := nI 0) d_Mo_wire_1 (by decide) k) ?_
  refine S_putfield (v' := va_up v 66 (nI 0)) d_Mo_wire_2 (fp_Mo_316 _) (w373 _) (Nat.le_of_ble_eq_true rfl) ⟨rfl, rfl⟩ (u373_0 _ _) ?_
  have hv2 := hv.off (j := 66) (x := (nI 0)) (by decide)
  have hm3 := hm.go (mdf.up (v := v) (j := 66) (x := (nI 0))) (by intro i hi; simp only [List.mem_cons, List.not_mem_nil, or_false] at hi ⊢ <;> omega)
  have e_u1 : (va_up v 66 (nI 0)) 66 = (nI 0) := by simp [va_up]
  generalize va_up v 66 (nI 0) = u1 at hv2 hm3 e_u1 ⊢
  refine ST.lift (fun _ _ k => T_aload_n (v := .ref 373) d_Mo_wire_5 rfl (Or.inr ⟨_, rfl⟩) k) ?_
  refine ST.lift (fun _ _ k => T_iload_n d_Mo_wire_6 rfl k) ?_
  refine ST.lift (fun _ _ k => T_iload_n d_Mo_wire_7 rfl k) ?_
  refine ST.lift (fun _ _ k => T_iload_n d_Mo_wire_8 rfl k) ?_
  refine S_virtual (as := [.int (nI 1), .int (nI 3), .int (nI i)]) (rest := []) (b := 373) d_Mo_wire_9 rfl (jw_Mo_isWire.jo (by decide)) lm_Mo_595 ji_Mo_isWire js_Mo_isWire (w373 _) rfl rfl rfl (Nat.le_of_ble_eq_true rfl) (by decide) (by decide) (c_Mo_isWire_1_3 G u1 i (by omega) hv2) (fun r u4 hq => ?_)
  obtain ⟨z7, hz7, hiz7, hr, hv5, hm6⟩ := hq
  rw [hr]
  clear hr r
  have hm8 := hm3.go hm6 (by intro i hi; simp only [List.mem_cons, List.not_mem_nil, or_false] at hi ⊢ <;> omega)
  have e9 : u4 66 = nI 0 := (hm6 66 (by decide)).trans e_u1
  show ST G mi_Mo_wire 12 [(0, .ref 373), (1, .int (nI 1)), (2, .int (nI 3)), (3, .int (nI i))] [.int (nI z7)] u4 0 0 _
  refine S_if_neN d_Mo_wire_12 rfl (by omega) (fun c10 => ?_) (fun c10 => ?_)
  · refine ST.lift (fun _ _ k => T_iload_n d_Mo_wire_22 rfl k) ?_
    refine ST.lift (fun _ _ k => T_iconst (v := nI 1) d_Mo_wire_23 (by decide) k) ?_
    refine S_icmp_neN d_Mo_wire_24 rfl (by omega) (by omega) (fun _ => ?_) (fun c => by first | exact absurd c (by omega) | exact c.elim | exact absurd c (by decide) | exact absurd (by assumption) c | exact absurd c (by assumption))
    refine ST.lift (fun _ _ k => T_iload_n d_Mo_wire_39 rfl k) ?_
    refine ST.lift (fun _ _ k => T_iconst (v := nI 2) d_Mo_wire_40 (by decide) k) ?_
    refine S_icmp_neN d_Mo_wire_41 rfl (by omega) (by omega) (fun _ => ?_) (fun c => by first | exact absurd c (by omega) | exact c.elim | exact absurd c (by decide) | exact absurd (by assumption) c | exact absurd c (by assumption))
    refine ST.lift (fun _ _ k => T_aload_n (v := .ref 373) d_Mo_wire_57 rfl (Or.inr ⟨_, rfl⟩) k) ?_
    refine S_getfield d_Mo_wire_58 fg_Mo_425 (w373 _) rfl ?_
    refine ST.lift (fun _ _ k => T_bipush (v := nI 64) d_Mo_wire_61 (by decide) k) ?_
    refine ST.lift (fun _ _ k => T_iload_n d_Mo_wire_63 rfl k) ?_
    refine S_imulN d_Mo_wire_64 ?_
    refine S_topi (y := nI 64) (by decide) ?_
    refine ST.lift (fun _ _ k => T_iload_n d_Mo_wire_65 rfl k) ?_
    refine S_iaddN d_Mo_wire_66 ?_
    refine S_iaload d_Mo_wire_67 a435 (vp_in_nI (by omega) (by omega)) (fun z11 => ?_)
    exact S_ret d_Mo_wire_68 rfl rfl (by decide) (by decide) (hQ _ _ hv5 hm8)
  · refine ST.lift (fun _ _ k => T_aload_n (v := .ref 373) d_Mo_wire_15 rfl (Or.inr ⟨_, rfl⟩) k) ?_
    refine ST.lift (fun _ _ k => T_iconst (v := nI 1) d_Mo_wire_16 (by decide) k) ?_
    refine S_putfield (v' := va_up u4 66 (nI 1)) d_Mo_wire_17 (fp_Mo_316 _) (w373 _) (Nat.le_of_ble_eq_true rfl) ⟨rfl, rfl⟩ (u373_0 _ _) ?_
    have hv13 := hv5.off (j := 66) (x := (nI 1)) (by decide)
    have hm14 := hm8.go (mdf.up (v := u4) (j := 66) (x := (nI 1))) (by intro i hi; simp only [List.mem_cons, List.not_mem_nil, or_false] at hi ⊢ <;> omega)
    have e_u12 : (va_up u4 66 (nI 1)) 66 = (nI 1) := by simp [va_up]
    generalize va_up u4 66 (nI 1) = u12 at hv13 hm14 e_u12 ⊢
    refine ST.lift (fun _ _ k => T_iconst (v := nI 0) d_Mo_wire_20 (by decide) k) ?_
    exact S_ret d_Mo_wire_21 rfl rfl (by decide) (by decide) (hQ _ _ hv13 hm14)
set_option maxRecDepth 100000 in
set_option maxHeartbeats 4000000 in
theorem c_Mo_tamper_1_3 (G : GX) (v : Nat → Int32) (i : Nat) (b_i : i < 2147483648) (mask : Int32) (hv : okv v) : CS G mi_Mo_tamper [.ref 373, .int (nI 1), .int (nI 3), .int (nI i), .int mask] v (fun r v' => ∃ z : Nat, z ≤ 1 ∧ r = some (.int (nI z)) ∧ okv v' ∧ mdf [66] v v') := by
  refine CS.of (by decide) (Nat.le_of_ble_eq_true rfl) ?_
  generalize hQe : (fun (r : Option Value) (v' : Nat → Int32) => ∃ z : Nat, z ≤ 1 ∧ r = some (.int (nI z)) ∧ okv v' ∧ mdf [66] v v') = Q
  have hQ : ∀ (z : Nat) (u : Nat → Int32), z ≤ 1 → okv u → mdf [66] v u → Q (some (.int (nI z))) u := by rw [← hQe]; exact fun z u hz h1 h2  => ⟨z, hz, rfl, h1, h2⟩
  clear hQe
  have hm : mdf [66] v v := mdf.rf
  show ST G mi_Mo_tamper 0 [(0, .ref 373), (1, .int (nI 1)), (2, .int (nI 3)), (3, .int (nI i)), (4, .int mask)] [] v 0 0 Q
  refine ST.lift (fun _ _ k => T_aload_n (v := .ref 373) d_Mo_tamper_0 rfl (Or.inr ⟨_, rfl⟩) k) ?_
  refine ST.lift (fun _ _ k => T_iconst (v := nI 0) d_Mo_tamper_1 (by decide) k) ?_
  refine S_putfield (v' := va_up v 66 (nI 0)) d_Mo_tamper_2 (fp_Mo_316 _) (w373 _) (Nat.le_of_ble_eq_true rfl) ⟨rfl, rfl⟩ (u373_0 _ _) ?_
  have hv2 := hv.off (j := 66) (x := (nI 0)) (by decide)
  have hm3 := hm.go (mdf.up (v := v) (j := 66) (x := (nI 0))) (by intro i hi; simp only [List.mem_cons, List.not_mem_nil, or_false] at hi ⊢ <;> omega)
  have e_u1 : (va_up v 66 (nI 0)) 66 = (nI 0) := by simp [va_up]
  generalize va_up v 66 (nI 0) = u1 at hv2 hm3 e_u1 ⊢
  refine ST.lift (fun _ _ k => T_aload_n (v := .ref 373) d_Mo_tamper_5 rfl (Or.inr ⟨_, rfl⟩) k) ?_
  refine ST.lift (fun _ _ k => T_iload_n d_Mo_tamper_6 rfl k) ?_
  refine ST.lift (fun _ _ k => T_iload_n d_Mo_tamper_7 rfl k) ?_
  refine ST.lift (fun _ _ k => T_iload_n d_Mo_tamper_8 rfl k) ?_
  refine S_virtual (as := [.int (nI 1), .int (nI 3), .int (nI i)]) (rest := []) (b := 373) d_Mo_tamper_9 rfl (jw_Mo_isWire.jo (by decide)) lm_Mo_595 ji_Mo_isWire js_Mo_isWire (w373 _) rfl rfl rfl (Nat.le_of_ble_eq_true rfl) (by decide) (by decide) (c_Mo_isWire_1_3 G u1 i (by omega) hv2) (fun r u4 hq => ?_)
  obtain ⟨z7, hz7, hiz7, hr, hv5, hm6⟩ := hq
  rw [hr]
  clear hr r
  have hm8 := hm3.go hm6 (by intro i hi; simp only [List.mem_cons, List.not_mem_nil, or_false] at hi ⊢ <;> omega)
  have e9 : u4 66 = nI 0 := (hm6 66 (by decide)).trans e_u1
  show ST G mi_Mo_tamper 12 [(0, .ref 373), (1, .int (nI 1)), (2, .int (nI 3)), (3, .int (nI i)), (4, .int mask)] [.int (nI z7)] u4 0 0 _
  refine S_if_neN d_Mo_tamper_12 rfl (by omega) (fun c10 => ?_) (fun c10 => ?_)
  · refine ST.lift (fun _ _ k => T_iload_n d_Mo_tamper_17 rfl k) ?_
    refine ST.lift (fun _ _ k => T_iconst (v := nI 1) d_Mo_tamper_18 (by decide) k) ?_
    refine S_icmp_neN d_Mo_tamper_19 rfl (by omega) (by omega) (fun _ => ?_) (fun c => by first | exact absurd c (by omega) | exact c.elim | exact absurd c (by decide) | exact absurd (by assumption) c | exact absurd c (by assumption))
    refine ST.lift (fun _ _ k => T_iload_n d_Mo_tamper_42 rfl k) ?_
    refine ST.lift (fun _ _ k => T_iconst (v := nI 2) d_Mo_tamper_43 (by decide) k) ?_
    refine S_icmp_neN d_Mo_tamper_44 rfl (by omega) (by omega) (fun _ => ?_) (fun c => by first | exact absurd c (by omega) | exact c.elim | exact absurd c (by decide) | exact absurd (by assumption) c | exact absurd c (by assumption))
    refine ST.lift (fun _ _ k => T_iload_n d_Mo_tamper_68 rfl k) ?_
    refine ST.lift (fun _ _ k => T_iconst (v := nI 3) d_Mo_tamper_69 (by decide) k) ?_
    refine S_icmp_neN d_Mo_tamper_70 rfl (by omega) (by omega) (fun c => by first | exact absurd c (by omega) | exact c.elim | exact absurd c (by decide) | exact absurd (by assumption) c | exact absurd c (by assumption)) (fun _ => ?_)
    refine ST.lift (fun _ _ k => T_aload_n (v := .ref 373) d_Mo_tamper_73 rfl (Or.inr ⟨_, rfl⟩) k) ?_
    refine S_getfield d_Mo_tamper_74 fg_Mo_425 (w373 _) rfl ?_
    refine ST.lift (fun _ _ k => T_bipush (v := nI 64) d_Mo_tamper_77 (by decide) k) ?_
    refine ST.lift (fun _ _ k => T_iload_n d_Mo_tamper_79 rfl k) ?_
    refine S_imulN d_Mo_tamper_80 ?_
    refine S_topi (y := nI 64) (by decide) ?_
    refine ST.lift (fun _ _ k => T_iload_n d_Mo_tamper_81 rfl k) ?_
    refine S_iaddN d_Mo_tamper_82 ?_
    refine ST.lift (fun _ _ k => T_dup2 d_Mo_tamper_83 rfl rfl k) ?_
    refine S_iaload d_Mo_tamper_84 a435 (vp_in_nI (by omega) (by omega)) (fun z11 => ?_)
    refine ST.lift (fun _ _ k => T_iload d_Mo_tamper_85 rfl k) ?_
    refine ST.lift (fun _ _ k => T_sipush (v := nI 255) d_Mo_tamper_87 (by decide) k) ?_
    refine S_iandM 8 d_Mo_tamper_90 (by decide) (by decide) (fun j12 hj12 => ?_)
    simp only [Nat.reducePow] at hj12
    refine ST.lift (fun _ _ k => T_ixor d_Mo_tamper_91 k) (S_anyi fun z13 => ?_)
    refine S_iastore d_Mo_tamper_92 (by decide) a435 (vp_in_nI (by omega) (by omega)) ?_
    refine ST.lift (fun _ _ k => T_iconst (v := nI 1) d_Mo_tamper_93 (by decide) k) ?_
    exact S_ret d_Mo_tamper_94 rfl (nar_z (by omega)) (by decide) (by decide) (hQ 1 _ (by omega) hv5 hm8)
  · refine ST.lift (fun _ _ k => T_iconst (v := nI 0) d_Mo_tamper_15 (by decide) k) ?_
    exact S_ret d_Mo_tamper_16 rfl (nar_z (by omega)) (by decide) (by decide) (hQ 0 _ (by omega) hv5 hm8)
set_option maxRecDepth 100000 in
set_option maxHeartbeats 4000000 in
theorem c_Mo_isWire_2_1 (G : GX) (v : Nat → Int32) (i : Nat) (b_i : i < 2147483648) (hv : okv v) : CS G mi_Mo_isWire [.ref 373, .int (nI 2), .int (nI 1), .int (nI i)] v (fun r v' => ∃ z : Nat, z ≤ 1 ∧ (z = 1 → i < 96) ∧ r = some (.int (nI z)) ∧ okv v' ∧ mdf [] v v') := by
  refine CS.of (by decide) (Nat.le_of_ble_eq_true rfl) ?_
  generalize hQe : (fun (r : Option Value) (v' : Nat → Int32) => ∃ z : Nat, z ≤ 1 ∧ (z = 1 → i < 96) ∧ r = some (.int (nI z)) ∧ okv v' ∧ mdf [] v v') = Q
  have hQ : ∀ (z : Nat) (u : Nat → Int32), z ≤ 1 → (z = 1 → i < 96) → okv u → mdf [] v u → Q (some (.int (nI z))) u := by rw [← hQe]; exact fun z u hz hi h1 h2  => ⟨z, hz, hi, rfl, h1, h2⟩
  clear hQe
  have hm : mdf [] v v := mdf.rf
  show ST G mi_Mo_isWire 0 [(0, .ref 373), (1, .int (nI 2)), (2, .int (nI 1)), (3, .int (nI i))] [] v 0 0 Q
  refine ST.lift (fun _ _ k => T_iload_n d_Mo_isWire_0 rfl k) ?_
  refine S_static (as := [.int (nI 2)]) (rest := []) d_Mo_isWire_1 rfl (jw_Mo_isSession.jo (by decide)) lm_Mo_545 jt_Mo_isSession rfl (Nat.le_of_ble_eq_true rfl) (by decide) (by decide) (c_Mo_isSession G v 2 (by omega)) (fun r v' hq => ?_)
  rw [hq.1, hq.2]
  clear hq r v'
  show ST G mi_Mo_isWire 4 [(0, .ref 373), (1, .int (nI 2)), (2, .int (nI 1)), (3, .int (nI i))] [.int (nI 1)] v 0 0 _
  refine S_if_eqN d_Mo_isWire_4 rfl (by omega) (fun c => by first | exact absurd c (by omega) | exact c.elim | exact absurd c (by decide) | exact absurd (by assumption) c | exact absurd c (by assumption)) (fun _ => ?_)
  refine ST.lift (fun _ _ k => T_iload_n d_Mo_isWire_7 rfl k) ?_
  refine S_if_geN d_Mo_isWire_8 rfl (by omega) (fun _ => ?_) (fun c => by first | exact absurd c (by omega) | exact c.elim | exact absurd c (by decide) | exact absurd (by assumption) c | exact absurd c (by assumption))
  refine ST.lift (fun _ _ k => T_iload_n d_Mo_isWire_13 rfl k) ?_
  refine ST.lift (fun _ _ k => T_iconst (v := nI 1) d_Mo_isWire_14 (by decide) k) ?_
  refine S_icmp_neN d_Mo_isWire_15 rfl (by omega) (by omega) (fun c => by first | exact absurd c (by omega) | exact c.elim | exact absurd c (by decide) | exact absurd (by assumption) c | exact absurd c (by assumption)) (fun _ => ?_)
  refine ST.lift (fun _ _ k => T_aload_n (v := .ref 373) d_Mo_isWire_18 rfl (Or.inr ⟨_, rfl⟩) k) ?_
  refine S_getfield d_Mo_isWire_19 fg_Mo_392 (w373 _) rfl ?_
  refine ST.lift (fun _ _ k => T_iload_n d_Mo_isWire_22 rfl k) ?_
  refine S_xload (t := 3) (k := 2) (Or.inr ⟨rfl, d_Mo_isWire_23⟩) rfl (w424 _) (by decide) (by decide) ?_
  refine S_topi (y := v 98) rfl ?_
  refine S_if_eq d_Mo_isWire_24 rfl (fun c1 => ?_) (fun c1 => ?_)
  · refine ST.lift (fun _ _ k => T_iconst (v := nI 0) d_Mo_isWire_37 (by decide) k) ?_
    exact S_ret d_Mo_isWire_38 rfl (nar_z (by omega)) (by decide) (by decide) (hQ 0 _ (by omega) (by omega) hv hm)
  · refine ST.lift (fun _ _ k => T_iload_n d_Mo_isWire_27 rfl k) ?_
    refine ST.lift (fun _ _ k => T_bipush (v := nI 96) d_Mo_isWire_28 (by decide) k) ?_
    refine S_icmp_geN d_Mo_isWire_30 rfl (by omega) (by omega) (fun c2 => ?_) (fun c2 => ?_)
    · refine ST.lift (fun _ _ k => T_iconst (v := nI 0) d_Mo_isWire_37 (by decide) k) ?_
      exact S_ret d_Mo_isWire_38 rfl (nar_z (by omega)) (by decide) (by decide) (hQ 0 _ (by omega) (by omega) hv hm)
    · refine ST.lift (fun _ _ k => T_iconst (v := nI 1) d_Mo_isWire_33 (by decide) k) ?_
      refine ST.lift (fun _ _ k => T_goto (tgt := 38) d_Mo_isWire_34 rfl k) ?_
      exact S_ret d_Mo_isWire_38 rfl (nar_z (by omega)) (by decide) (by decide) (hQ 1 _ (by omega) (by omega) hv hm)
set_option maxRecDepth 100000 in
set_option maxHeartbeats 4000000 in
theorem c_Mo_wire_2_1 (G : GX) (v : Nat → Int32) (i : Nat) (b_i : i < 2147483648) (hv : okv v) : CS G mi_Mo_wire [.ref 373, .int (nI 2), .int (nI 1), .int (nI i)] v (fun r v' => ∃ z : Int32, r = some (.int z) ∧ okv v' ∧ mdf [66] v v') := by
  refine CS.of (by decide) (Nat.le_of_ble_eq_true rfl) ?_
  generalize hQe : (fun (r : Option Value) (v' : Nat → Int32) => ∃ z : Int32, r = some (.int z) ∧ okv v' ∧ mdf [66] v v') = Q
  have hQ : ∀ (z : Int32) (u : Nat → Int32), okv u → mdf [66] v u → Q (some (.int z)) u := by rw [← hQe]; exact fun z u h1 h2  => ⟨z, rfl, h1, h2⟩
  clear hQe
  have hm : mdf [66] v v := mdf.rf
  show ST G mi_Mo_wire 0 [(0, .ref 373), (1, .int (nI 2)), (2, .int (nI 1)), (3, .int (nI i))] [] v 0 0 Q
  refine ST.lift (fun _ _ k => T_aload_n (v := .ref 373) d_Mo_wire_0 rfl (Or.inr ⟨_, rfl⟩) k) ?_
  refine ST.lift (fun _ _ k => T_iconst (v := nI 0) d_Mo_wire_1 (by decide) k) ?_
  refine S_putfield (v' := va_up v 66 (nI 0)) d_Mo_wire_2 (fp_Mo_316 _) (w373 _) (Nat.le_of_ble_eq_true rfl) ⟨rfl, rfl⟩ (u373_0 _ _) ?_
  have hv2 := hv.off (j := 66) (x := (nI 0)) (by decide)
  have hm3 := hm.go (mdf.up (v := v) (j := 66) (x := (nI 0))) (by intro i hi; simp only [List.mem_cons, List.not_mem_nil, or_false] at hi ⊢ <;> omega)
  have e_u1 : (va_up v 66 (nI 0)) 66 = (nI 0) := by simp [va_up]
  generalize va_up v 66 (nI 0) = u1 at hv2 hm3 e_u1 ⊢
  refine ST.lift (fun _ _ k => T_aload_n (v := .ref 373) d_Mo_wire_5 rfl (Or.inr ⟨_, rfl⟩) k) ?_
  refine ST.lift (fun _ _ k => T_iload_n d_Mo_wire_6 rfl k) ?_
  refine ST.lift (fun _ _ k => T_iload_n d_Mo_wire_7 rfl k) ?_
  refine ST.lift (fun _ _ k => T_iload_n d_Mo_wire_8 rfl k) ?_
  refine S_virtual (as := [.int (nI 2), .int (nI 1), .int (nI i)]) (rest := []) (b := 373) d_Mo_wire_9 rfl (jw_Mo_isWire.jo (by decide)) lm_Mo_595 ji_Mo_isWire js_Mo_isWire (w373 _) rfl rfl rfl (Nat.le_of_ble_eq_true rfl) (by decide) (by decide) (c_Mo_isWire_2_1 G u1 i (by omega) hv2) (fun r u4 hq => ?_)
  obtain ⟨z7, hz7, hiz7, hr, hv5, hm6⟩ := hq
  rw [hr]
  clear hr r
  have hm8 := hm3.go hm6 (by intro i hi; simp only [List.mem_cons, List.not_mem_nil, or_false] at hi ⊢ <;> omega)
  have e9 : u4 66 = nI 0 := (hm6 66 (by decide)).trans e_u1
  show ST G mi_Mo_wire 12 [(0, .ref 373), (1, .int (nI 2)), (2, .int (nI 1)), (3, .int (nI i))] [.int (nI z7)] u4 0 0 _
  refine S_if_neN d_Mo_wire_12 rfl (by omega) (fun c10 => ?_) (fun c10 => ?_)
  · refine ST.lift (fun _ _ k => T_iload_n d_Mo_wire_22 rfl k) ?_
    refine ST.lift (fun _ _ k => T_iconst (v := nI 1) d_Mo_wire_23 (by decide) k) ?_
    refine S_icmp_neN d_Mo_wire_24 rfl (by omega) (by omega) (fun c => by first | exact absurd c (by omega) | exact c.elim | exact absurd c (by decide) | exact absurd (by assumption) c | exact absurd c (by assumption)) (fun _ => ?_)
    refine ST.lift (fun _ _ k => T_aload_n (v := .ref 373) d_Mo_wire_27 rfl (Or.inr ⟨_, rfl⟩) k) ?_
    refine S_getfield d_Mo_wire_28 fg_Mo_419 (w373 _) rfl ?_
    refine ST.lift (fun _ _ k => T_bipush (v := nI 96) d_Mo_wire_31 (by decide) k) ?_
    refine ST.lift (fun _ _ k => T_iload_n d_Mo_wire_33 rfl k) ?_
    refine S_imulN d_Mo_wire_34 ?_
    refine S_topi (y := nI 192) (by decide) ?_
    refine ST.lift (fun _ _ k => T_iload_n d_Mo_wire_35 rfl k) ?_
    refine S_iaddN d_Mo_wire_36 ?_
    refine S_iaload d_Mo_wire_37 a433 (vp_in_nI (by omega) (by omega)) (fun z11 => ?_)
    exact S_ret d_Mo_wire_38 rfl rfl (by decide) (by decide) (hQ _ _ hv5 hm8)
  · refine ST.lift (fun _ _ k => T_aload_n (v := .ref 373) d_Mo_wire_15 rfl (Or.inr ⟨_, rfl⟩) k) ?_
    refine ST.lift (fun _ _ k => T_iconst (v := nI 1) d_Mo_wire_16 (by decide) k) ?_
    refine S_putfield (v' := va_up u4 66 (nI 1)) d_Mo_wire_17 (fp_Mo_316 _) (w373 _) (Nat.le_of_ble_eq_true rfl) ⟨rfl, rfl⟩ (u373_0 _ _) ?_
    have hv13 := hv5.off (j := 66) (x := (nI 1)) (by decide)
    have hm14 := hm8.go (mdf.up (v := u4) (j := 66) (x := (nI 1))) (by intro i hi; simp only [List.mem_cons, List.not_mem_nil, or_false] at hi ⊢ <;> omega)
    have e_u12 : (va_up u4 66 (nI 1)) 66 = (nI 1) := by simp [va_up]
    generalize va_up u4 66 (nI 1) = u12 at hv13 hm14 e_u12 ⊢
    refine ST.lift (fun _ _ k => T_iconst (v := nI 0) d_Mo_wire_20 (by decide) k) ?_
    exact S_ret d_Mo_wire_21 rfl rfl (by decide) (by decide) (hQ _ _ hv13 hm14)
set_option maxRecDepth 100000 in
set_option maxHeartbeats 4000000 in
theorem c_Mo_tamper_2_1 (G : GX) (v : Nat → Int32) (i : Nat) (b_i : i < 2147483648) (mask : Int32) (hv : okv v) : CS G mi_Mo_tamper [.ref 373, .int (nI 2), .int (nI 1), .int (nI i), .int mask] v (fun r v' => ∃ z : Nat, z ≤ 1 ∧ r = some (.int (nI z)) ∧ okv v' ∧ mdf [66] v v') := by
  refine CS.of (by decide) (Nat.le_of_ble_eq_true rfl) ?_
  generalize hQe : (fun (r : Option Value) (v' : Nat → Int32) => ∃ z : Nat, z ≤ 1 ∧ r = some (.int (nI z)) ∧ okv v' ∧ mdf [66] v v') = Q
  have hQ : ∀ (z : Nat) (u : Nat → Int32), z ≤ 1 → okv u → mdf [66] v u → Q (some (.int (nI z))) u := by rw [← hQe]; exact fun z u hz h1 h2  => ⟨z, hz, rfl, h1, h2⟩
  clear hQe
  have hm : mdf [66] v v := mdf.rf
  show ST G mi_Mo_tamper 0 [(0, .ref 373), (1, .int (nI 2)), (2, .int (nI 1)), (3, .int (nI i)), (4, .int mask)] [] v 0 0 Q
  refine ST.lift (fun _ _ k => T_aload_n (v := .ref 373) d_Mo_tamper_0 rfl (Or.inr ⟨_, rfl⟩) k) ?_
  refine ST.lift (fun _ _ k => T_iconst (v := nI 0) d_Mo_tamper_1 (by decide) k) ?_
  refine S_putfield (v' := va_up v 66 (nI 0)) d_Mo_tamper_2 (fp_Mo_316 _) (w373 _) (Nat.le_of_ble_eq_true rfl) ⟨rfl, rfl⟩ (u373_0 _ _) ?_
  have hv2 := hv.off (j := 66) (x := (nI 0)) (by decide)
  have hm3 := hm.go (mdf.up (v := v) (j := 66) (x := (nI 0))) (by intro i hi; simp only [List.mem_cons, List.not_mem_nil, or_false] at hi ⊢ <;> omega)
  have e_u1 : (va_up v 66 (nI 0)) 66 = (nI 0) := by simp [va_up]
  generalize va_up v 66 (nI 0) = u1 at hv2 hm3 e_u1 ⊢
  refine ST.lift (fun _ _ k => T_aload_n (v := .ref 373) d_Mo_tamper_5 rfl (Or.inr ⟨_, rfl⟩) k) ?_
  refine ST.lift (fun _ _ k => T_iload_n d_Mo_tamper_6 rfl k) ?_
  refine ST.lift (fun _ _ k => T_iload_n d_Mo_tamper_7 rfl k) ?_
  refine ST.lift (fun _ _ k => T_iload_n d_Mo_tamper_8 rfl k) ?_
  refine S_virtual (as := [.int (nI 2), .int (nI 1), .int (nI i)]) (rest := []) (b := 373) d_Mo_tamper_9 rfl (jw_Mo_isWire.jo (by decide)) lm_Mo_595 ji_Mo_isWire js_Mo_isWire (w373 _) rfl rfl rfl (Nat.le_of_ble_eq_true rfl) (by decide) (by decide) (c_Mo_isWire_2_1 G u1 i (by omega) hv2) (fun r u4 hq => ?_)
  obtain ⟨z7, hz7, hiz7, hr, hv5, hm6⟩ := hq
  rw [hr]
  clear hr r
  have hm8 := hm3.go hm6 (by intro i hi; simp only [List.mem_cons, List.not_mem_nil, or_false] at hi ⊢ <;> omega)
  have e9 : u4 66 = nI 0 := (hm6 66 (by decide)).trans e_u1
  show ST G mi_Mo_tamper 12 [(0, .ref 373), (1, .int (nI 2)), (2, .int (nI 1)), (3, .int (nI i)), (4, .int mask)] [.int (nI z7)] u4 0 0 _
  refine S_if_neN d_Mo_tamper_12 rfl (by omega) (fun c10 => ?_) (fun c10 => ?_)
  · refine ST.lift (fun _ _ k => T_iload_n d_Mo_tamper_17 rfl k) ?_
    refine ST.lift (fun _ _ k => T_iconst (v := nI 1) d_Mo_tamper_18 (by decide) k) ?_
    refine S_icmp_neN d_Mo_tamper_19 rfl (by omega) (by omega) (fun c => by first | exact absurd c (by omega) | exact c.elim | exact absurd c (by decide) | exact absurd (by assumption) c | exact absurd c (by assumption)) (fun _ => ?_)
    refine ST.lift (fun _ _ k => T_aload_n (v := .ref 373) d_Mo_tamper_22 rfl (Or.inr ⟨_, rfl⟩) k) ?_
    refine S_getfield d_Mo_tamper_23 fg_Mo_419 (w373 _) rfl ?_
    refine ST.lift (fun _ _ k => T_bipush (v := nI 96) d_Mo_tamper_26 (by decide) k) ?_
    refine ST.lift (fun _ _ k => T_iload_n d_Mo_tamper_28 rfl k) ?_
    refine S_imulN d_Mo_tamper_29 ?_
    refine S_topi (y := nI 192) (by decide) ?_
    refine ST.lift (fun _ _ k => T_iload_n d_Mo_tamper_30 rfl k) ?_
    refine S_iaddN d_Mo_tamper_31 ?_
    refine ST.lift (fun _ _ k => T_dup2 d_Mo_tamper_32 rfl rfl k) ?_
    refine S_iaload d_Mo_tamper_33 a433 (vp_in_nI (by omega) (by omega)) (fun z11 => ?_)
    refine ST.lift (fun _ _ k => T_iload d_Mo_tamper_34 rfl k) ?_
    refine ST.lift (fun _ _ k => T_sipush (v := nI 255) d_Mo_tamper_36 (by decide) k) ?_
    refine S_iandM 8 d_Mo_tamper_39 (by decide) (by decide) (fun j12 hj12 => ?_)
    simp only [Nat.reducePow] at hj12
    refine ST.lift (fun _ _ k => T_ixor d_Mo_tamper_40 k) (S_anyi fun z13 => ?_)
    refine S_iastore d_Mo_tamper_41 (by decide) a433 (vp_in_nI (by omega) (by omega)) ?_
    refine ST.lift (fun _ _ k => T_iload_n d_Mo_tamper_42 rfl k) ?_
    refine ST.lift (fun _ _ k => T_iconst (v := nI 2) d_Mo_tamper_43 (by decide) k) ?_
    refine S_icmp_neN d_Mo_tamper_44 rfl (by omega) (by omega) (fun _ => ?_) (fun c => by first | exact absurd c (by omega) | exact c.elim | exact absurd c (by decide) | exact absurd (by assumption) c | exact absurd c (by assumption))
    refine ST.lift (fun _ _ k => T_iload_n d_Mo_tamper_68 rfl k) ?_
    refine ST.lift (fun _ _ k => T_iconst (v := nI 3) d_Mo_tamper_69 (by decide) k) ?_
    refine S_icmp_neN d_Mo_tamper_70 rfl (by omega) (by omega) (fun _ => ?_) (fun c => by first | exact absurd c (by omega) | exact c.elim | exact absurd c (by decide) | exact absurd (by assumption) c | exact absurd c (by assumption))
    refine ST.lift (fun _ _ k => T_iconst (v := nI 1) d_Mo_tamper_93 (by decide) k) ?_
    exact S_ret d_Mo_tamper_94 rfl (nar_z (by omega)) (by decide) (by decide) (hQ 1 _ (by omega) hv5 hm8)
  · refine ST.lift (fun _ _ k => T_iconst (v := nI 0) d_Mo_tamper_15 (by decide) k) ?_
    exact S_ret d_Mo_tamper_16 rfl (nar_z (by omega)) (by decide) (by decide) (hQ 0 _ (by omega) hv5 hm8)
set_option maxRecDepth 100000 in
set_option maxHeartbeats 4000000 in
theorem c_Mo_isWire_2_2 (G : GX) (v : Nat → Int32) (i : Nat) (b_i : i < 2147483648) (hv : okv v) : CS G mi_Mo_isWire [.ref 373, .int (nI 2), .int (nI 2), .int (nI i)] v (fun r v' => ∃ z : Nat, z ≤ 1 ∧ (z = 1 → i < 320) ∧ r = some (.int (nI z)) ∧ okv v' ∧ mdf [] v v') := by
  refine CS.of (by decide) (Nat.le_of_ble_eq_true rfl) ?_
  generalize hQe : (fun (r : Option Value) (v' : Nat → Int32) => ∃ z : Nat, z ≤ 1 ∧ (z = 1 → i < 320) ∧ r = some (.int (nI z)) ∧ okv v' ∧ mdf [] v v') = Q
  have hQ : ∀ (z : Nat) (u : Nat → Int32), z ≤ 1 → (z = 1 → i < 320) → okv u → mdf [] v u → Q (some (.int (nI z))) u := by rw [← hQe]; exact fun z u hz hi h1 h2  => ⟨z, hz, hi, rfl, h1, h2⟩
  clear hQe
  have hm : mdf [] v v := mdf.rf
  show ST G mi_Mo_isWire 0 [(0, .ref 373), (1, .int (nI 2)), (2, .int (nI 2)), (3, .int (nI i))] [] v 0 0 Q
  refine ST.lift (fun _ _ k => T_iload_n d_Mo_isWire_0 rfl k) ?_
  refine S_static (as := [.int (nI 2)]) (rest := []) d_Mo_isWire_1 rfl (jw_Mo_isSession.jo (by decide)) lm_Mo_545 jt_Mo_isSession rfl (Nat.le_of_ble_eq_true rfl) (by decide) (by decide) (c_Mo_isSession G v 2 (by omega)) (fun r v' hq => ?_)
  rw [hq.1, hq.2]
  clear hq r v'
  show ST G mi_Mo_isWire 4 [(0, .ref 373), (1, .int (nI 2)), (2, .int (nI 2)), (3, .int (nI i))] [.int (nI 1)] v 0 0 _
  refine S_if_eqN d_Mo_isWire_4 rfl (by omega) (fun c => by first | exact absurd c (by omega) | exact c.elim | exact absurd c (by decide) | exact absurd (by assumption) c | exact absurd c (by assumption)) (fun _ => ?_)
  refine ST.lift (fun _ _ k => T_iload_n d_Mo_isWire_7 rfl k) ?_
  refine S_if_geN d_Mo_isWire_8 rfl (by omega) (fun _ => ?_) (fun c => by first | exact absurd c (by omega) | exact c.elim | exact absurd c (by decide) | exact absurd (by assumption) c | exact absurd c (by assumption))
  refine ST.lift (fun _ _ k => T_iload_n d_Mo_isWire_13 rfl k) ?_
  refine ST.lift (fun _ _ k => T_iconst (v := nI 1) d_Mo_isWire_14 (by decide) k) ?_
  refine S_icmp_neN d_Mo_isWire_15 rfl (by omega) (by omega) (fun _ => ?_) (fun c => by first | exact absurd c (by omega) | exact c.elim | exact absurd c (by decide) | exact absurd (by assumption) c | exact absurd c (by assumption))
  refine ST.lift (fun _ _ k => T_iload_n d_Mo_isWire_39 rfl k) ?_
  refine ST.lift (fun _ _ k => T_iconst (v := nI 2) d_Mo_isWire_40 (by decide) k) ?_
  refine S_icmp_neN d_Mo_isWire_41 rfl (by omega) (by omega) (fun c => by first | exact absurd c (by omega) | exact c.elim | exact absurd c (by decide) | exact absurd (by assumption) c | exact absurd c (by assumption)) (fun _ => ?_)
  refine ST.lift (fun _ _ k => T_aload_n (v := .ref 373) d_Mo_isWire_44 rfl (Or.inr ⟨_, rfl⟩) k) ?_
  refine S_getfield d_Mo_isWire_45 fg_Mo_395 (w373 _) rfl ?_
  refine ST.lift (fun _ _ k => T_iload_n d_Mo_isWire_48 rfl k) ?_
  refine S_xload (t := 3) (k := 2) (Or.inr ⟨rfl, d_Mo_isWire_49⟩) rfl (w425 _) (by decide) (by decide) ?_
  refine S_topi (y := v 102) rfl ?_
  refine S_if_eq d_Mo_isWire_50 rfl (fun c1 => ?_) (fun c1 => ?_)
  · refine ST.lift (fun _ _ k => T_iconst (v := nI 0) d_Mo_isWire_64 (by decide) k) ?_
    exact S_ret d_Mo_isWire_65 rfl (nar_z (by omega)) (by decide) (by decide) (hQ 0 _ (by omega) (by omega) hv hm)
  · refine ST.lift (fun _ _ k => T_iload_n d_Mo_isWire_53 rfl k) ?_
    refine ST.lift (fun _ _ k => T_sipush (v := nI 320) d_Mo_isWire_54 (by decide) k) ?_
    refine S_icmp_geN d_Mo_isWire_57 rfl (by omega) (by omega) (fun c2 => ?_) (fun c2 => ?_)
    · refine ST.lift (fun _ _ k => T_iconst (v := nI 0) d_Mo_isWire_64 (by decide) k) ?_
      exact S_ret d_Mo_isWire_65 rfl (nar_z (by omega)) (by decide) (by decide) (hQ 0 _ (by omega) (by omega) hv hm)
    · refine ST.lift (fun _ _ k => T_iconst (v := nI 1) d_Mo_isWire_60 (by decide) k) ?_
      refine ST.lift (fun _ _ k => T_goto (tgt := 65) d_Mo_isWire_61 rfl k) ?_
      exact S_ret d_Mo_isWire_65 rfl (nar_z (by omega)) (by decide) (by decide) (hQ 1 _ (by omega) (by omega) hv hm)
set_option maxRecDepth 100000 in
set_option maxHeartbeats 4000000 in
theorem c_Mo_wire_2_2 (G : GX) (v : Nat → Int32) (i : Nat) (b_i : i < 2147483648) (hv : okv v) : CS G mi_Mo_wire [.ref 373, .int (nI 2), .int (nI 2), .int (nI i)] v (fun r v' => ∃ z : Int32, r = some (.int z) ∧ okv v' ∧ mdf [66] v v') := by
  refine CS.of (by decide) (Nat.le_of_ble_eq_true rfl) ?_
  generalize hQe : (fun (r : Option Value) (v' : Nat → Int32) => ∃ z : Int32, r = some (.int z) ∧ okv v' ∧ mdf [66] v v') = Q
  have hQ : ∀ (z : Int32) (u : Nat → Int32), okv u → mdf [66] v u → Q (some (.int z)) u := by rw [← hQe]; exact fun z u h1 h2  => ⟨z, rfl, h1, h2⟩
  clear hQe
  have hm : mdf [66] v v := mdf.rf
  show ST G mi_Mo_wire 0 [(0, .ref 373), (1, .int (nI 2)), (2, .int (nI 2)), (3, .int (nI i))] [] v 0 0 Q
  refine ST.lift (fun _ _ k => T_aload_n (v := .ref 373) d_Mo_wire_0 rfl (Or.inr ⟨_, rfl⟩) k) ?_
  refine ST.lift (fun _ _ k => T_iconst (v := nI 0) d_Mo_wire_1 (by decide) k) ?_
  refine S_putfield (v' := va_up v 66 (nI 0)) d_Mo_wire_2 (fp_Mo_316 _) (w373 _) (Nat.le_of_ble_eq_true rfl) ⟨rfl, rfl⟩ (u373_0 _ _) ?_
  have hv2 := hv.off (j := 66) (x := (nI 0)) (by decide)
  have hm3 := hm.go (mdf.up (v := v) (j := 66) (x := (nI 0))) (by intro i hi; simp only [List.mem_cons, List.not_mem_nil, or_false] at hi ⊢ <;> omega)
  have e_u1 : (va_up v 66 (nI 0)) 66 = (nI 0) := by simp [va_up]
  generalize va_up v 66 (nI 0) = u1 at hv2 hm3 e_u1 ⊢
  refine ST.lift (fun _ _ k => T_aload_n (v := .ref 373) d_Mo_wire_5 rfl (Or.inr ⟨_, rfl⟩) k) ?_
  refine ST.lift (fun _ _ k => T_iload_n d_Mo_wire_6 rfl k) ?_
  refine ST.lift (fun _ _ k => T_iload_n d_Mo_wire_7 rfl k) ?_
  refine ST.lift (fun _ _ k => T_iload_n d_Mo_wire_8 rfl k) ?_
  refine S_virtual (as := [.int (nI 2), .int (nI 2), .int (nI i)]) (rest := []) (b := 373) d_Mo_wire_9 rfl (jw_Mo_isWire.jo (by decide)) lm_Mo_595 ji_Mo_isWire js_Mo_isWire (w373 _) rfl rfl rfl (Nat.le_of_ble_eq_true rfl) (by decide) (by decide) (c_Mo_isWire_2_2 G u1 i (by omega) hv2) (fun r u4 hq => ?_)
  obtain ⟨z7, hz7, hiz7, hr, hv5, hm6⟩ := hq
  rw [hr]
  clear hr r
  have hm8 := hm3.go hm6 (by intro i hi; simp only [List.mem_cons, List.not_mem_nil, or_false] at hi ⊢ <;> omega)
  have e9 : u4 66 = nI 0 := (hm6 66 (by decide)).trans e_u1
  show ST G mi_Mo_wire 12 [(0, .ref 373), (1, .int (nI 2)), (2, .int (nI 2)), (3, .int (nI i))] [.int (nI z7)] u4 0 0 _
  refine S_if_neN d_Mo_wire_12 rfl (by omega) (fun c10 => ?_) (fun c10 => ?_)
  · refine ST.lift (fun _ _ k => T_iload_n d_Mo_wire_22 rfl k) ?_
    refine ST.lift (fun _ _ k => T_iconst (v := nI 1) d_Mo_wire_23 (by decide) k) ?_
    refine S_icmp_neN d_Mo_wire_24 rfl (by omega) (by omega) (fun _ => ?_) (fun c => by first | exact absurd c (by omega) | exact c.elim | exact absurd c (by decide) | exact absurd (by assumption) c | exact absurd c (by assumption))
    refine ST.lift (fun _ _ k => T_iload_n d_Mo_wire_39 rfl k) ?_
    refine ST.lift (fun _ _ k => T_iconst (v := nI 2) d_Mo_wire_40 (by decide) k) ?_
    refine S_icmp_neN d_Mo_wire_41 rfl (by omega) (by omega) (fun c => by first | exact absurd c (by omega) | exact c.elim | exact absurd c (by decide) | exact absurd (by assumption) c | exact absurd c (by assumption)) (fun _ => ?_)
    refine ST.lift (fun _ _ k => T_aload_n (v := .ref 373) d_Mo_wire_44 rfl (Or.inr ⟨_, rfl⟩) k) ?_
    refine S_getfield d_Mo_wire_45 fg_Mo_422 (w373 _) rfl ?_
    refine ST.lift (fun _ _ k => T_sipush (v := nI 320) d_Mo_wire_48 (by decide) k) ?_
    refine ST.lift (fun _ _ k => T_iload_n d_Mo_wire_51 rfl k) ?_
    refine S_imulN d_Mo_wire_52 ?_
    refine S_topi (y := nI 640) (by decide) ?_
    refine ST.lift (fun _ _ k => T_iload_n d_Mo_wire_53 rfl k) ?_
    refine S_iaddN d_Mo_wire_54 ?_
    refine S_iaload d_Mo_wire_55 a434 (vp_in_nI (by omega) (by omega)) (fun z11 => ?_)
    exact S_ret d_Mo_wire_56 rfl rfl (by decide) (by decide) (hQ _ _ hv5 hm8)
  · refine ST.lift (fun _ _ k => T_aload_n (v := .ref 373) d_Mo_wire_15 rfl (Or.inr ⟨_, rfl⟩) k) ?_
    refine ST.lift (fun _ _ k => T_iconst (v := nI 1) d_Mo_wire_16 (by decide) k) ?_
    refine S_putfield (v' := va_up u4 66 (nI 1)) d_Mo_wire_17 (fp_Mo_316 _) (w373 _) (Nat.le_of_ble_eq_true rfl) ⟨rfl, rfl⟩ (u373_0 _ _) ?_
    have hv13 := hv5.off (j := 66) (x := (nI 1)) (by decide)
    have hm14 := hm8.go (mdf.up (v := u4) (j := 66) (x := (nI 1))) (by intro i hi; simp only [List.mem_cons, List.not_mem_nil, or_false] at hi ⊢ <;> omega)
    have e_u12 : (va_up u4 66 (nI 1)) 66 = (nI 1) := by simp [va_up]
    generalize va_up u4 66 (nI 1) = u12 at hv13 hm14 e_u12 ⊢
    refine ST.lift (fun _ _ k => T_iconst (v := nI 0) d_Mo_wire_20 (by decide) k) ?_
    exact S_ret d_Mo_wire_21 rfl rfl (by decide) (by decide) (hQ _ _ hv13 hm14)
set_option maxRecDepth 100000 in
set_option maxHeartbeats 4000000 in
theorem c_Mo_tamper_2_2 (G : GX) (v : Nat → Int32) (i : Nat) (b_i : i < 2147483648) (mask : Int32) (hv : okv v) : CS G mi_Mo_tamper [.ref 373, .int (nI 2), .int (nI 2), .int (nI i), .int mask] v (fun r v' => ∃ z : Nat, z ≤ 1 ∧ r = some (.int (nI z)) ∧ okv v' ∧ mdf [66] v v') := by
  refine CS.of (by decide) (Nat.le_of_ble_eq_true rfl) ?_
  generalize hQe : (fun (r : Option Value) (v' : Nat → Int32) => ∃ z : Nat, z ≤ 1 ∧ r = some (.int (nI z)) ∧ okv v' ∧ mdf [66] v v') = Q
  have hQ : ∀ (z : Nat) (u : Nat → Int32), z ≤ 1 → okv u → mdf [66] v u → Q (some (.int (nI z))) u := by rw [← hQe]; exact fun z u hz h1 h2  => ⟨z, hz, rfl, h1, h2⟩
  clear hQe
  have hm : mdf [66] v v := mdf.rf
  show ST G mi_Mo_tamper 0 [(0, .ref 373), (1, .int (nI 2)), (2, .int (nI 2)), (3, .int (nI i)), (4, .int mask)] [] v 0 0 Q
  refine ST.lift (fun _ _ k => T_aload_n (v := .ref 373) d_Mo_tamper_0 rfl (Or.inr ⟨_, rfl⟩) k) ?_
  refine ST.lift (fun _ _ k => T_iconst (v := nI 0) d_Mo_tamper_1 (by decide) k) ?_
  refine S_putfield (v' := va_up v 66 (nI 0)) d_Mo_tamper_2 (fp_Mo_316 _) (w373 _) (Nat.le_of_ble_eq_true rfl) ⟨rfl, rfl⟩ (u373_0 _ _) ?_
  have hv2 := hv.off (j := 66) (x := (nI 0)) (by decide)
  have hm3 := hm.go (mdf.up (v := v) (j := 66) (x := (nI 0))) (by intro i hi; simp only [List.mem_cons, List.not_mem_nil, or_false] at hi ⊢ <;> omega)
  have e_u1 : (va_up v 66 (nI 0)) 66 = (nI 0) := by simp [va_up]
  generalize va_up v 66 (nI 0) = u1 at hv2 hm3 e_u1 ⊢
  refine ST.lift (fun _ _ k => T_aload_n (v := .ref 373) d_Mo_tamper_5 rfl (Or.inr ⟨_, rfl⟩) k) ?_
  refine ST.lift (fun _ _ k => T_iload_n d_Mo_tamper_6 rfl k) ?_
  refine ST.lift (fun _ _ k => T_iload_n d_Mo_tamper_7 rfl k) ?_
  refine ST.lift (fun _ _ k => T_iload_n d_Mo_tamper_8 rfl k) ?_
  refine S_virtual (as := [.int (nI 2), .int (nI 2), .int (nI i)]) (rest := []) (b := 373) d_Mo_tamper_9 rfl (jw_Mo_isWire.jo (by decide)) lm_Mo_595 ji_Mo_isWire js_Mo_isWire (w373 _) rfl rfl rfl (Nat.le_of_ble_eq_true rfl) (by decide) (by decide) (c_Mo_isWire_2_2 G u1 i (by omega) hv2) (fun r u4 hq => ?_)
  obtain ⟨z7, hz7, hiz7, hr, hv5, hm6⟩ := hq
  rw [hr]
  clear hr r
  have hm8 := hm3.go hm6 (by intro i hi; simp only [List.mem_cons, List.not_mem_nil, or_false] at hi ⊢ <;> omega)
  have e9 : u4 66 = nI 0 := (hm6 66 (by decide)).trans e_u1
  show ST G mi_Mo_tamper 12 [(0, .ref 373), (1, .int (nI 2)), (2, .int (nI 2)), (3, .int (nI i)), (4, .int mask)] [.int (nI z7)] u4 0 0 _
  refine S_if_neN d_Mo_tamper_12 rfl (by omega) (fun c10 => ?_) (fun c10 => ?_)
  · refine ST.lift (fun _ _ k => T_iload_n d_Mo_tamper_17 rfl k) ?_
    refine ST.lift (fun _ _ k => T_iconst (v := nI 1) d_Mo_tamper_18 (by decide) k) ?_
    refine S_icmp_neN d_Mo_tamper_19 rfl (by omega) (by omega) (fun _ => ?_) (fun c => by first | exact absurd c (by omega) | exact c.elim | exact absurd c (by decide) | exact absurd (by assumption) c | exact absurd c (by assumption))
    refine ST.lift (fun _ _ k => T_iload_n d_Mo_tamper_42 rfl k) ?_
    refine ST.lift (fun _ _ k => T_iconst (v := nI 2) d_Mo_tamper_43 (by decide) k) ?_
    refine S_icmp_neN d_Mo_tamper_44 rfl (by omega) (by omega) (fun c => by first | exact absurd c (by omega) | exact c.elim | exact absurd c (by decide) | exact absurd (by assumption) c | exact absurd c (by assumption)) (fun _ => ?_)
    refine ST.lift (fun _ _ k => T_aload_n (v := .ref 373) d_Mo_tamper_47 rfl (Or.inr ⟨_, rfl⟩) k) ?_
    refine S_getfield d_Mo_tamper_48 fg_Mo_422 (w373 _) rfl ?_
    refine ST.lift (fun _ _ k => T_sipush (v := nI 320) d_Mo_tamper_51 (by decide) k) ?_
    refine ST.lift (fun _ _ k => T_iload_n d_Mo_tamper_54 rfl k) ?_
    refine S_imulN d_Mo_tamper_55 ?_
    refine S_topi (y := nI 640) (by decide) ?_
    refine ST.lift (fun _ _ k => T_iload_n d_Mo_tamper_56 rfl k) ?_
    refine S_iaddN d_Mo_tamper_57 ?_
    refine ST.lift (fun _ _ k => T_dup2 d_Mo_tamper_58 rfl rfl k) ?_
    refine S_iaload d_Mo_tamper_59 a434 (vp_in_nI (by omega) (by omega)) (fun z11 => ?_)
    refine ST.lift (fun _ _ k => T_iload d_Mo_tamper_60 rfl k) ?_
    refine ST.lift (fun _ _ k => T_sipush (v := nI 255) d_Mo_tamper_62 (by decide) k) ?_
    refine S_iandM 8 d_Mo_tamper_65 (by decide) (by decide) (fun j12 hj12 => ?_)
    simp only [Nat.reducePow] at hj12
    refine ST.lift (fun _ _ k => T_ixor d_Mo_tamper_66 k) (S_anyi fun z13 => ?_)
    refine S_iastore d_Mo_tamper_67 (by decide) a434 (vp_in_nI (by omega) (by omega)) ?_
    refine ST.lift (fun _ _ k => T_iload_n d_Mo_tamper_68 rfl k) ?_
    refine ST.lift (fun _ _ k => T_iconst (v := nI 3) d_Mo_tamper_69 (by decide) k) ?_
    refine S_icmp_neN d_Mo_tamper_70 rfl (by omega) (by omega) (fun _ => ?_) (fun c => by first | exact absurd c (by omega) | exact c.elim | exact absurd c (by decide) | exact absurd (by assumption) c | exact absurd c (by assumption))
    refine ST.lift (fun _ _ k => T_iconst (v := nI 1) d_Mo_tamper_93 (by decide) k) ?_
    exact S_ret d_Mo_tamper_94 rfl (nar_z (by omega)) (by decide) (by decide) (hQ 1 _ (by omega) hv5 hm8)
  · refine ST.lift (fun _ _ k => T_iconst (v := nI 0) d_Mo_tamper_15 (by decide) k) ?_
    exact S_ret d_Mo_tamper_16 rfl (nar_z (by omega)) (by decide) (by decide) (hQ 0 _ (by omega) hv5 hm8)
set_option maxRecDepth 100000 in
set_option maxHeartbeats 4000000 in
theorem c_Mo_isWire_2_3 (G : GX) (v : Nat → Int32) (i : Nat) (b_i : i < 2147483648) (hv : okv v) : CS G mi_Mo_isWire [.ref 373, .int (nI 2), .int (nI 3), .int (nI i)] v (fun r v' => ∃ z : Nat, z ≤ 1 ∧ (z = 1 → i < 64) ∧ r = some (.int (nI z)) ∧ okv v' ∧ mdf [] v v') := by
  refine CS.of (by decide) (Nat.le_of_ble_eq_true rfl) ?_
  generalize hQe : (fun (r : Option Value) (v' : Nat → Int32) => ∃ z : Nat, z ≤ 1 ∧ (z = 1 → i < 64) ∧ r = some (.int (nI z)) ∧ okv v' ∧ mdf [] v v') = Q
  have hQ : ∀ (z : Nat) (u : Nat → Int32), z ≤ 1 → (z = 1 → i < 64) → okv u → mdf [] v u → Q (some (.int (nI z))) u := by rw [← hQe]; exact fun z u hz hi h1 h2  => ⟨z, hz, hi, rfl, h1, h2⟩
  clear hQe
  have hm : mdf [] v v := mdf.rf
  show ST G mi_Mo_isWire 0 [(0, .ref 373), (1, .int (nI 2)), (2, .int (nI 3)), (3, .int (nI i))] [] v 0 0 Q
  refine ST.lift (fun _ _ k => T_iload_n d_Mo_isWire_0 rfl k) ?_
  refine S_static (as := [.int (nI 2)]) (rest := []) d_Mo_isWire_1 rfl (jw_Mo_isSession.jo (by decide)) lm_Mo_545 jt_Mo_isSession rfl (Nat.le_of_ble_eq_true rfl) (by decide) (by decide) (c_Mo_isSession G v 2 (by omega)) (fun r v' hq => ?_)
  rw [hq.1, hq.2]
  clear hq r v'
  show ST G mi_Mo_isWire 4 [(0, .ref 373), (1, .int (nI 2)), (2, .int (nI 3)), (3, .int (nI i))] [.int (nI 1)] v 0 0 _
  refine S_if_eqN d_Mo_isWire_4 rfl (by omega) (fun c => by first | exact absurd c (by omega) | exact c.elim | exact absurd c (by decide) | exact absurd (by assumption) c | exact absurd c (by assumption)) (fun _ => ?_)
  refine ST.lift (fun _ _ k => T_iload_n d_Mo_isWire_7 rfl k) ?_
  refine S_if_geN d_Mo_isWire_8 rfl (by omega) (fun _ => ?_) (fun c => by first | exact absurd c (by omega) | exact c.elim | exact absurd c (by decide) | exact absurd (by assumption) c | exact absurd c (by assumption))
  refine ST.lift (fun _ _ k => T_iload_n d_Mo_isWire_13 rfl k) ?_
  refine ST.lift (fun _ _ k => T_iconst (v := nI 1) d_Mo_isWire_14 (by decide) k) ?_
  refine S_icmp_neN d_Mo_isWire_15 rfl (by omega) (by omega) (fun _ => ?_) (fun c => by first | exact absurd c (by omega) | exact c.elim | exact absurd c (by decide) | exact absurd (by assumption) c | exact absurd c (by assumption))
  refine ST.lift (fun _ _ k => T_iload_n d_Mo_isWire_39 rfl k) ?_
  refine ST.lift (fun _ _ k => T_iconst (v := nI 2) d_Mo_isWire_40 (by decide) k) ?_
  refine S_icmp_neN d_Mo_isWire_41 rfl (by omega) (by omega) (fun _ => ?_) (fun c => by first | exact absurd c (by omega) | exact c.elim | exact absurd c (by decide) | exact absurd (by assumption) c | exact absurd c (by assumption))
  refine ST.lift (fun _ _ k => T_iload_n d_Mo_isWire_66 rfl k) ?_
  refine ST.lift (fun _ _ k => T_iconst (v := nI 3) d_Mo_isWire_67 (by decide) k) ?_
  refine S_icmp_neN d_Mo_isWire_68 rfl (by omega) (by omega) (fun c => by first | exact absurd c (by omega) | exact c.elim | exact absurd c (by decide) | exact absurd (by assumption) c | exact absurd c (by assumption)) (fun _ => ?_)
  refine ST.lift (fun _ _ k => T_aload_n (v := .ref 373) d_Mo_isWire_71 rfl (Or.inr ⟨_, rfl⟩) k) ?_
  refine S_getfield d_Mo_isWire_72 fg_Mo_398 (w373 _) rfl ?_
  refine ST.lift (fun _ _ k => T_iload_n d_Mo_isWire_75 rfl k) ?_
  refine S_xload (t := 3) (k := 2) (Or.inr ⟨rfl, d_Mo_isWire_76⟩) rfl (w426 _) (by decide) (by decide) ?_
  refine S_topi (y := v 106) rfl ?_
  refine S_if_eq d_Mo_isWire_77 rfl (fun c1 => ?_) (fun c1 => ?_)
  · refine ST.lift (fun _ _ k => T_iconst (v := nI 0) d_Mo_isWire_90 (by decide) k) ?_
    exact S_ret d_Mo_isWire_91 rfl (nar_z (by omega)) (by decide) (by decide) (hQ 0 _ (by omega) (by omega) hv hm)
  · refine ST.lift (fun _ _ k => T_iload_n d_Mo_isWire_80 rfl k) ?_
    refine ST.lift (fun _ _ k => T_bipush (v := nI 64) d_Mo_isWire_81 (by decide) k) ?_
    refine S_icmp_geN d_Mo_isWire_83 rfl (by omega) (by omega) (fun c2 => ?_) (fun c2 => ?_)
    · refine ST.lift (fun _ _ k => T_iconst (v := nI 0) d_Mo_isWire_90 (by decide) k) ?_
      exact S_ret d_Mo_isWire_91 rfl (nar_z (by omega)) (by decide) (by decide) (hQ 0 _ (by omega) (by omega) hv hm)
    · refine ST.lift (fun _ _ k => T_iconst (v := nI 1) d_Mo_isWire_86 (by decide) k) ?_
      refine ST.lift (fun _ _ k => T_goto (tgt := 91) d_Mo_isWire_87 rfl k) ?_
      exact S_ret d_Mo_isWire_91 rfl (nar_z (by omega)) (by decide) (by decide) (hQ 1 _ (by omega) (by omega) hv hm)
set_option maxRecDepth 100000 in
set_option maxHeartbeats 4000000 in
theorem c_Mo_wire_2_3 (G : GX) (v : Nat → Int32) (i : Nat) (b_i : i < 2147483648) (hv : okv v) : CS G mi_Mo_wire [.ref 373, .int (nI 2), .int (nI 3), .int (nI i)] v (fun r v' => ∃ z : Int32, r = some (.int z) ∧ okv v' ∧ mdf [66] v v') := by
  refine CS.of (by decide) (Nat.le_of_ble_eq_true rfl) ?_
  generalize hQe : (fun (r : Option Value) (v' : Nat → Int32) => ∃ z : Int32, r = some (.int z) ∧ okv v' ∧ mdf [66] v v') = Q
  have hQ : ∀ (z : Int32) (u : Nat → Int32), okv u → mdf [66] v u → Q (some (.int z)) u := by rw [← hQe]; exact fun z u h1 h2  => ⟨z, rfl, h1, h2⟩
  clear hQe
  have hm : mdf [66] v v := mdf.rf
  show ST G mi_Mo_wire 0 [(0, .ref 373), (1, .int (nI 2)), (2, .int (nI 3)), (3, .int (nI i))] [] v 0 0 Q
  refine ST.lift (fun _ _ k => T_aload_n (v := .ref 373) d_Mo_wire_0 rfl (Or.inr ⟨_, rfl⟩) k) ?_
  refine ST.lift (fun _ _ k => T_iconst (v := nI 0) d_Mo_wire_1 (by decide) k) ?_
  refine S_putfield (v' := va_up v 66 (nI 0)) d_Mo_wire_2 (fp_Mo_316 _) (w373 _) (Nat.le_of_ble_eq_true rfl) ⟨rfl, rfl⟩ (u373_0 _ _) ?_
  have hv2 := hv.off (j := 66) (x := (nI 0)) (by decide)
  have hm3 := hm.go (mdf.up (v := v) (j := 66) (x := (nI 0))) (by intro i hi; simp only [List.mem_cons, List.not_mem_nil, or_false] at hi ⊢ <;> omega)
  have e_u1 : (va_up v 66 (nI 0)) 66 = (nI 0) := by simp [va_up]
  generalize va_up v 66 (nI 0) = u1 at hv2 hm3 e_u1 ⊢
  refine ST.lift (fun _ _ k => T_aload_n (v := .ref 373) d_Mo_wire_5 rfl (Or.inr ⟨_, rfl⟩) k) ?_
  refine ST.lift (fun _ _ k => T_iload_n d_Mo_wire_6 rfl k) ?_
  refine ST.lift (fun _ _ k => T_iload_n d_Mo_wire_7 rfl k) ?_
  refine ST.lift (fun _ _ k => T_iload_n d_Mo_wire_8 rfl k) ?_
  refine S_virtual (as := [.int (nI 2), .int (nI 3), .int (nI i)]) (rest := []) (b := 373) d_Mo_wire_9 rfl (jw_Mo_isWire.jo (by decide)) lm_Mo_595 ji_Mo_isWire js_Mo_isWire (w373 _) rfl rfl rfl (Nat.le_of_ble_eq_true rfl) (by decide) (by decide) (c_Mo_isWire_2_3 G u1 i (by omega) hv2) (fun r u4 hq => ?_)
  obtain ⟨z7, hz7, hiz7, hr, hv5, hm6⟩ := hq
  rw [hr]
  clear hr r
  have hm8 := hm3.go hm6 (by intro i hi; simp only [List.mem_cons, List.not_mem_nil, or_false] at hi ⊢ <;> omega)
  have e9 : u4 66 = nI 0 := (hm6 66 (by decide)).trans e_u1
  show ST G mi_Mo_wire 12 [(0, .ref 373), (1, .int (nI 2)), (2, .int (nI 3)), (3, .int (nI i))] [.int (nI z7)] u4 0 0 _
  refine S_if_neN d_Mo_wire_12 rfl (by omega) (fun c10 => ?_) (fun c10 => ?_)
  · refine ST.lift (fun _ _ k => T_iload_n d_Mo_wire_22 rfl k) ?_
    refine ST.lift (fun _ _ k => T_iconst (v := nI 1) d_Mo_wire_23 (by decide) k) ?_
    refine S_icmp_neN d_Mo_wire_24 rfl (by omega) (by omega) (fun _ => ?_) (fun c => by first | exact absurd c (by omega) | exact c.elim | exact absurd c (by decide) | exact absurd (by assumption) c | exact absurd c (by assumption))
    refine ST.lift (fun _ _ k => T_iload_n d_Mo_wire_39 rfl k) ?_
    refine ST.lift (fun _ _ k => T_iconst (v := nI 2) d_Mo_wire_40 (by decide) k) ?_
    refine S_icmp_neN d_Mo_wire_41 rfl (by omega) (by omega) (fun _ => ?_) (fun c => by first | exact absurd c (by omega) | exact c.elim | exact absurd c (by decide) | exact absurd (by assumption) c | exact absurd c (by assumption))
    refine ST.lift (fun _ _ k => T_aload_n (v := .ref 373) d_Mo_wire_57 rfl (Or.inr ⟨_, rfl⟩) k) ?_
    refine S_getfield d_Mo_wire_58 fg_Mo_425 (w373 _) rfl ?_
    refine ST.lift (fun _ _ k => T_bipush (v := nI 64) d_Mo_wire_61 (by decide) k) ?_
    refine ST.lift (fun _ _ k => T_iload_n d_Mo_wire_63 rfl k) ?_
    refine S_imulN d_Mo_wire_64 ?_
    refine S_topi (y := nI 128) (by decide) ?_
    refine ST.lift (fun _ _ k => T_iload_n d_Mo_wire_65 rfl k) ?_
    refine S_iaddN d_Mo_wire_66 ?_
    refine S_iaload d_Mo_wire_67 a435 (vp_in_nI (by omega) (by omega)) (fun z11 => ?_)
    exact S_ret d_Mo_wire_68 rfl rfl (by decide) (by decide) (hQ _ _ hv5 hm8)
  · refine ST.lift (fun _ _ k => T_aload_n (v := .ref 373) d_Mo_wire_15 rfl (Or.inr ⟨_, rfl⟩) k) ?_
    refine ST.lift (fun _ _ k => T_iconst (v := nI 1) d_Mo_wire_16 (by decide) k) ?_
    refine S_putfield (v' := va_up u4 66 (nI 1)) d_Mo_wire_17 (fp_Mo_316 _) (w373 _) (Nat.le_of_ble_eq_true rfl) ⟨rfl, rfl⟩ (u373_0 _ _) ?_
    have hv13 := hv5.off (j := 66) (x := (nI 1)) (by decide)
    have hm14 := hm8.go (mdf.up (v := u4) (j := 66) (x := (nI 1))) (by intro i hi; simp only [List.mem_cons, List.not_mem_nil, or_false] at hi ⊢ <;> omega)
    have e_u12 : (va_up u4 66 (nI 1)) 66 = (nI 1) := by simp [va_up]
    generalize va_up u4 66 (nI 1) = u12 at hv13 hm14 e_u12 ⊢
    refine ST.lift (fun _ _ k => T_iconst (v := nI 0) d_Mo_wire_20 (by decide) k) ?_
    exact S_ret d_Mo_wire_21 rfl rfl (by decide) (by decide) (hQ _ _ hv13 hm14)
set_option maxRecDepth 100000 in
set_option maxHeartbeats 4000000 in
theorem c_Mo_tamper_2_3 (G : GX) (v : Nat → Int32) (i : Nat) (b_i : i < 2147483648) (mask : Int32) (hv : okv v) : CS G mi_Mo_tamper [.ref 373, .int (nI 2), .int (nI 3), .int (nI i), .int mask] v (fun r v' => ∃ z : Nat, z ≤ 1 ∧ r = some (.int (nI z)) ∧ okv v' ∧ mdf [66] v v') := by
  refine CS.of (by decide) (Nat.le_of_ble_eq_true rfl) ?_
  generalize hQe : (fun (r : Option Value) (v' : Nat → Int32) => ∃ z : Nat, z ≤ 1 ∧ r = some (.int (nI z)) ∧ okv v' ∧ mdf [66] v v') = Q
  have hQ : ∀ (z : Nat) (u : Nat → Int32), z ≤ 1 → okv u → mdf [66] v u → Q (some (.int (nI z))) u := by rw [← hQe]; exact fun z u hz h1 h2  => ⟨z, hz, rfl, h1, h2⟩
  clear hQe
  have hm : mdf [66] v v := mdf.rf
  show ST G mi_Mo_tamper 0 [(0, .ref 373), (1, .int (nI 2)), (2, .int (nI 3)), (3, .int (nI i)), (4, .int mask)] [] v 0 0 Q
  refine ST.lift (fun _ _ k => T_aload_n (v := .ref 373) d_Mo_tamper_0 rfl (Or.inr ⟨_, rfl⟩) k) ?_
  refine ST.lift (fun _ _ k => T_iconst (v := nI 0) d_Mo_tamper_1 (by decide) k) ?_
  refine S_putfield (v' := va_up v 66 (nI 0)) d_Mo_tamper_2 (fp_Mo_316 _) (w373 _) (Nat.le_of_ble_eq_true rfl) ⟨rfl, rfl⟩ (u373_0 _ _) ?_
  have hv2 := hv.off (j := 66) (x := (nI 0)) (by decide)
  have hm3 := hm.go (mdf.up (v := v) (j := 66) (x := (nI 0))) (by intro i hi; simp only [List.mem_cons, List.not_mem_nil, or_false] at hi ⊢ <;> omega)
  have e_u1 : (va_up v 66 (nI 0)) 66 = (nI 0) := by simp [va_up]
  generalize va_up v 66 (nI 0) = u1 at hv2 hm3 e_u1 ⊢
  refine ST.lift (fun _ _ k => T_aload_n (v := .ref 373) d_Mo_tamper_5 rfl (Or.inr ⟨_, rfl⟩) k) ?_
  refine ST.lift (fun _ _ k => T_iload_n d_Mo_tamper_6 rfl k) ?_
  refine ST.lift (fun _ _ k => T_iload_n d_Mo_tamper_7 rfl k) ?_
  refine ST.lift (fun _ _ k => T_iload_n d_Mo_tamper_8 rfl k) ?_
  refine S_virtual (as := [.int (nI 2), .int (nI 3), .int (nI i)]) (rest := []) (b := 373) d_Mo_tamper_9 rfl (jw_Mo_isWire.jo (by decide)) lm_Mo_595 ji_Mo_isWire js_Mo_isWire (w373 _) rfl rfl rfl (Nat.le_of_ble_eq_true rfl) (by decide) (by decide) (c_Mo_isWire_2_3 G u1 i (by omega) hv2) (fun r u4 hq => ?_)
  obtain ⟨z7, hz7, hiz7, hr, hv5, hm6⟩ := hq
  rw [hr]
  clear hr r
  have hm8 := hm3.go hm6 (by intro i hi; simp only [List.mem_cons, List.not_mem_nil, or_false] at hi ⊢ <;> omega)
  have e9 : u4 66 = nI 0 := (hm6 66 (by decide)).trans e_u1
  show ST G mi_Mo_tamper 12 [(0, .ref 373), (1, .int (nI 2)), (2, .int (nI 3)), (3, .int (nI i)), (4, .int mask)] [.int (nI z7)] u4 0 0 _
  refine S_if_neN d_Mo_tamper_12 rfl (by omega) (fun c10 => ?_) (fun c10 => ?_)
  · refine ST.lift (fun _ _ k => T_iload_n d_Mo_tamper_17 rfl k) ?_
    refine ST.lift (fun _ _ k => T_iconst (v := nI 1) d_Mo_tamper_18 (by decide) k) ?_
    refine S_icmp_neN d_Mo_tamper_19 rfl (by omega) (by omega) (fun _ => ?_) (fun c => by first | exact absurd c (by omega) | exact c.elim | exact absurd c (by decide) | exact absurd (by assumption) c | exact absurd c (by assumption))
    refine ST.lift (fun _ _ k => T_iload_n d_Mo_tamper_42 rfl k) ?_
    refine ST.lift (fun _ _ k => T_iconst (v := nI 2) d_Mo_tamper_43 (by decide) k) ?_
    refine S_icmp_neN d_Mo_tamper_44 rfl (by omega) (by omega) (fun _ => ?_) (fun c => by first | exact absurd c (by omega) | exact c.elim | exact absurd c (by decide) | exact absurd (by assumption) c | exact absurd c (by assumption))
    refine ST.lift (fun _ _ k => T_iload_n d_Mo_tamper_68 rfl k) ?_
    refine ST.lift (fun _ _ k => T_iconst (v := nI 3) d_Mo_tamper_69 (by decide) k) ?_
    refine S_icmp_neN d_Mo_tamper_70 rfl (by omega) (by omega) (fun c => by first | exact absurd c (by omega) | exact c.elim | exact absurd c (by decide) | exact absurd (by assumption) c | exact absurd c (by assumption)) (fun _ => ?_)
    refine ST.lift (fun _ _ k => T_aload_n (v := .ref 373) d_Mo_tamper_73 rfl (Or.inr ⟨_, rfl⟩) k) ?_
    refine S_getfield d_Mo_tamper_74 fg_Mo_425 (w373 _) rfl ?_
    refine ST.lift (fun _ _ k => T_bipush (v := nI 64) d_Mo_tamper_77 (by decide) k) ?_
    refine ST.lift (fun _ _ k => T_iload_n d_Mo_tamper_79 rfl k) ?_
    refine S_imulN d_Mo_tamper_80 ?_
    refine S_topi (y := nI 128) (by decide) ?_
    refine ST.lift (fun _ _ k => T_iload_n d_Mo_tamper_81 rfl k) ?_
    refine S_iaddN d_Mo_tamper_82 ?_
    refine ST.lift (fun _ _ k => T_dup2 d_Mo_tamper_83 rfl rfl k) ?_
    refine S_iaload d_Mo_tamper_84 a435 (vp_in_nI (by omega) (by omega)) (fun z11 => ?_)
    refine ST.lift (fun _ _ k => T_iload d_Mo_tamper_85 rfl k) ?_
    refine ST.lift (fun _ _ k => T_sipush (v := nI 255) d_Mo_tamper_87 (by decide) k) ?_
    refine S_iandM 8 d_Mo_tamper_90 (by decide) (by decide) (fun j12 hj12 => ?_)
    simp only [Nat.reducePow] at hj12
    refine ST.lift (fun _ _ k => T_ixor d_Mo_tamper_91 k) (S_anyi fun z13 => ?_)
    refine S_iastore d_Mo_tamper_92 (by decide) a435 (vp_in_nI (by omega) (by omega)) ?_
    refine ST.lift (fun _ _ k => T_iconst (v := nI 1) d_Mo_tamper_93 (by decide) k) ?_
    exact S_ret d_Mo_tamper_94 rfl (nar_z (by omega)) (by decide) (by decide) (hQ 1 _ (by omega) hv5 hm8)
  · refine ST.lift (fun _ _ k => T_iconst (v := nI 0) d_Mo_tamper_15 (by decide) k) ?_
    exact S_ret d_Mo_tamper_16 rfl (nar_z (by omega)) (by decide) (by decide) (hQ 0 _ (by omega) hv5 hm8)
set_option maxRecDepth 100000 in
set_option maxHeartbeats 4000000 in
theorem c_Mo_isWire_3_1 (G : GX) (v : Nat → Int32) (i : Nat) (b_i : i < 2147483648) (hv : okv v) : CS G mi_Mo_isWire [.ref 373, .int (nI 3), .int (nI 1), .int (nI i)] v (fun r v' => ∃ z : Nat, z ≤ 1 ∧ (z = 1 → i < 96) ∧ r = some (.int (nI z)) ∧ okv v' ∧ mdf [] v v') := by
  refine CS.of (by decide) (Nat.le_of_ble_eq_true rfl) ?_
  generalize hQe : (fun (r : Option Value) (v' : Nat → Int32) => ∃ z : Nat, z ≤ 1 ∧ (z = 1 → i < 96) ∧ r = some (.int (nI z)) ∧ okv v' ∧ mdf [] v v') = Q
  have hQ : ∀ (z : Nat) (u : Nat → Int32), z ≤ 1 → (z = 1 → i < 96) → okv u → mdf [] v u → Q (some (.int (nI z))) u := by rw [← hQe]; exact fun z u hz hi h1 h2  => ⟨z, hz, hi, rfl, h1, h2⟩
  clear hQe
  have hm : mdf [] v v := mdf.rf
  show ST G mi_Mo_isWire 0 [(0, .ref 373), (1, .int (nI 3)), (2, .int (nI 1)), (3, .int (nI i))] [] v 0 0 Q
  refine ST.lift (fun _ _ k => T_iload_n d_Mo_isWire_0 rfl k) ?_
  refine S_static (as := [.int (nI 3)]) (rest := []) d_Mo_isWire_1 rfl (jw_Mo_isSession.jo (by decide)) lm_Mo_545 jt_Mo_isSession rfl (Nat.le_of_ble_eq_true rfl) (by decide) (by decide) (c_Mo_isSession G v 3 (by omega)) (fun r v' hq => ?_)
  rw [hq.1, hq.2]
  clear hq r v'
  show ST G mi_Mo_isWire 4 [(0, .ref 373), (1, .int (nI 3)), (2, .int (nI 1)), (3, .int (nI i))] [.int (nI 1)] v 0 0 _
  refine S_if_eqN d_Mo_isWire_4 rfl (by omega) (fun c => by first | exact absurd c (by omega) | exact c.elim | exact absurd c (by decide) | exact absurd (by assumption) c | exact absurd c (by assumption)) (fun _ => ?_)
  refine ST.lift (fun _ _ k => T_iload_n d_Mo_isWire_7 rfl k) ?_
  refine S_if_geN d_Mo_isWire_8 rfl (by omega) (fun _ => ?_) (fun c => by first | exact absurd c (by omega) | exact c.elim | exact absurd c (by decide) | exact absurd (by assumption) c | exact absurd c (by assumption))
  refine ST.lift (fun _ _ k => T_iload_n d_Mo_isWire_13 rfl k) ?_
  refine ST.lift (fun _ _ k => T_iconst (v := nI 1) d_Mo_isWire_14 (by decide) k) ?_
  refine S_icmp_neN d_Mo_isWire_15 rfl (by omega) (by omega) (fun c => by first | exact absurd c (by omega) | exact c.elim | exact absurd c (by decide) | exact absurd (by assumption) c | exact absurd c (by assumption)) (fun _ => ?_)
  refine ST.lift (fun _ _ k => T_aload_n (v := .ref 373) d_Mo_isWire_18 rfl (Or.inr ⟨_, rfl⟩) k) ?_
  refine S_getfield d_Mo_isWire_19 fg_Mo_392 (w373 _) rfl ?_
  refine ST.lift (fun _ _ k => T_iload_n d_Mo_isWire_22 rfl k) ?_
  refine S_xload (t := 3) (k := 3) (Or.inr ⟨rfl, d_Mo_isWire_23⟩) rfl (w424 _) (by decide) (by decide) ?_
  refine S_topi (y := v 99) rfl ?_
  refine S_if_eq d_Mo_isWire_24 rfl (fun c1 => ?_) (fun c1 => ?_)
  · refine ST.lift (fun _ _ k => T_iconst (v := nI 0) d_Mo_isWire_37 (by decide) k) ?_
    exact S_ret d_Mo_isWire_38 rfl (nar_z (by omega)) (by decide) (by decide) (hQ 0 _ (by omega) (by omega) hv hm)
  · refine ST.lift (fun _ _ k => T_iload_n d_Mo_isWire_27 rfl k) ?_
    refine ST.lift (fun _ _ k => T_bipush (v := nI 96) d_Mo_isWire_28 (by decide) k) ?_
    refine S_icmp_geN d_Mo_isWire_30 rfl (by omega) (by omega) (fun c2 => ?_) (fun c2 => ?_)
    · refine ST.lift (fun _ _ k => T_iconst (v := nI 0) d_Mo_isWire_37 (by decide) k) ?_
      exact S_ret d_Mo_isWire_38 rfl (nar_z (by omega)) (by decide) (by decide) (hQ 0 _ (by omega) (by omega) hv hm)
    · refine ST.lift (fun _ _ k => T_iconst (v := nI 1) d_Mo_isWire_33 (by decide) k) ?_
      refine ST.lift (fun _ _ k => T_goto (tgt := 38) d_Mo_isWire_34 rfl k) ?_
      exact S_ret d_Mo_isWire_38 rfl (nar_z (by omega)) (by decide) (by decide) (hQ 1 _ (by omega) (by omega) hv hm)
set_option maxRecDepth 100000 in
set_option maxHeartbeats 4000000 in
theorem c_Mo_wire_3_1 (G : GX) (v : Nat → Int32) (i : Nat) (b_i : i < 2147483648) (hv : okv v) : CS G mi_Mo_wire [.ref 373, .int (nI 3), .int (nI 1), .int (nI i)] v (fun r v' => ∃ z : Int32, r = some (.int z) ∧ okv v' ∧ mdf [66] v v') := by
  refine CS.of (by decide) (Nat.le_of_ble_eq_true rfl) ?_
  generalize hQe : (fun (r : Option Value) (v' : Nat → Int32) => ∃ z : Int32, r = some (.int z) ∧ okv v' ∧ mdf [66] v v') = Q
  have hQ : ∀ (z : Int32) (u : Nat → Int32), okv u → mdf [66] v u → Q (some (.int z)) u := by rw [← hQe]; exact fun z u h1 h2  => ⟨z, rfl, h1, h2⟩
  clear hQe
  have hm : mdf [66] v v := mdf.rf
  show ST G mi_Mo_wire 0 [(0, .ref 373), (1, .int (nI 3)), (2, .int (nI 1)), (3, .int (nI i))] [] v 0 0 Q
  refine ST.lift (fun _ _ k => T_aload_n (v := .ref 373) d_Mo_wire_0 rfl (Or.inr ⟨_, rfl⟩) k) ?_
  refine ST.lift (fun _ _ k => T_iconst (v := nI 0) d_Mo_wire_1 (by decide) k) ?_
  refine S_putfield (v' := va_up v 66 (nI 0)) d_Mo_wire_2 (fp_Mo_316 _) (w373 _) (Nat.le_of_ble_eq_true rfl) ⟨rfl, rfl⟩ (u373_0 _ _) ?_
  have hv2 := hv.off (j := 66) (x := (nI 0)) (by decide)
  have hm3 := hm.go (mdf.up (v := v) (j := 66) (x := (nI 0))) (by intro i hi; simp only [List.mem_cons, List.not_mem_nil, or_false] at hi ⊢ <;> omega)
  have e_u1 : (va_up v 66 (nI 0)) 66 = (nI 0) := by simp [va_up]
  generalize va_up v 66 (nI 0) = u1 at hv2 hm3 e_u1 ⊢
  refine ST.lift (fun _ _ k => T_aload_n (v := .ref 373) d_Mo_wire_5 rfl (Or.inr ⟨_, rfl⟩) k) ?_
  refine ST.lift (fun _ _ k => T_iload_n d_Mo_wire_6 rfl k) ?_
  refine ST.lift (fun _ _ k => T_iload_n d_Mo_wire_7 rfl k) ?_
  refine ST.lift (fun _ _ k => T_iload_n d_Mo_wire_8 rfl k) ?_
  refine S_virtual (as := [.int (nI 3), .int (nI 1), .int (nI i)]) (rest := []) (b := 373) d_Mo_wire_9 rfl (jw_Mo_isWire.jo (by decide)) lm_Mo_595 ji_Mo_isWire js_Mo_isWire (w373 _) rfl rfl rfl (Nat.le_of_ble_eq_true rfl) (by decide) (by decide) (c_Mo_isWire_3_1 G u1 i (by omega) hv2) (fun r u4 hq => ?_)
  obtain ⟨z7, hz7, hiz7, hr, hv5, hm6⟩ := hq
  rw [hr]
  clear hr r
  have hm8 := hm3.go hm6 (by intro i hi; simp only [List.mem_cons, List.not_mem_nil, or_false] at hi ⊢ <;> omega)
  have e9 : u4 66 = nI 0 := (hm6 66 (by decide)).trans e_u1
  show ST G mi_Mo_wire 12 [(0, .ref 373), (1, .int (nI 3)), (2, .int (nI 1)), (3, .int (nI i))] [.int (nI z7)] u4 0 0 _
  refine S_if_neN d_Mo_wire_12 rfl (by omega) (fun c10 => ?_) (fun c10 => ?_)
  · refine ST.lift (fun _ _ k => T_iload_n d_Mo_wire_22 rfl k) ?_
    refine ST.lift (fun _ _ k => T_iconst (v := nI 1) d_Mo_wire_23 (by decide) k) ?_
    refine S_icmp_neN d_Mo_wire_24 rfl (by omega) (by omega) (fun c => by first | exact absurd c (by omega) | exact c.elim | exact absurd c (by decide) | exact absurd (by assumption) c | exact absurd c (by assumption)) (fun _ => ?_)
    refine ST.lift (fun _ _ k => T_aload_n (v := .ref 373) d_Mo_wire_27 rfl (Or.inr ⟨_, rfl⟩) k) ?_
    refine S_getfield d_Mo_wire_28 fg_Mo_419 (w373 _) rfl ?_
    refine ST.lift (fun _ _ k => T_bipush (v := nI 96) d_Mo_wire_31 (by decide) k) ?_
    refine ST.lift (fun _ _ k => T_iload_n d_Mo_wire_33 rfl k) ?_
    refine S_imulN d_Mo_wire_34 ?_
    refine S_topi (y := nI 288) (by decide) ?_
    refine ST.lift (fun _ _ k => T_iload_n d_Mo_wire_35 rfl k) ?_
    refine S_iaddN d_Mo_wire_36 ?_
    refine S_iaload d_Mo_wire_37 a433 (vp_in_nI (by omega) (by omega)) (fun z11 => ?_)
    exact S_ret d_Mo_wire_38 rfl rfl (by decide) (by decide) (hQ _ _ hv5 hm8)
  · refine ST.lift (fun _ _ k => T_aload_n (v := .ref 373) d_Mo_wire_15 rfl (Or.inr ⟨_, rfl⟩) k) ?_
    refine ST.lift (fun _ _ k => T_iconst (v := nI 1) d_Mo_wire_16 (by decide) k) ?_
    refine S_putfield (v' := va_up u4 66 (nI 1)) d_Mo_wire_17 (fp_Mo_316 _) (w373 _) (Nat.le_of_ble_eq_true rfl) ⟨rfl, rfl⟩ (u373_0 _ _) ?_
    have hv13 := hv5.off (j := 66) (x := (nI 1)) (by decide)
    have hm14 := hm8.go (mdf.up (v := u4) (j := 66) (x := (nI 1))) (by intro i hi; simp only [List.mem_cons, List.not_mem_nil, or_false] at hi ⊢ <;> omega)
    have e_u12 : (va_up u4 66 (nI 1)) 66 = (nI 1) := by simp [va_up]
    generalize va_up u4 66 (nI 1) = u12 at hv13 hm14 e_u12 ⊢
    refine ST.lift (fun _ _ k => T_iconst (v := nI 0) d_Mo_wire_20 (by decide) k) ?_
    exact S_ret d_Mo_wire_21 rfl rfl (by decide) (by decide) (hQ _ _ hv13 hm14)
set_option maxRecDepth 100000 in
set_option maxHeartbeats 4000000 in
theorem c_Mo_tamper_3_1 (G : GX) (v : Nat → Int32) (i : Nat) (b_i : i < 2147483648) (mask : Int32) (hv : okv v) : CS G mi_Mo_tamper [.ref 373, .int (nI 3), .int (nI 1), .int (nI i), .int mask] v (fun r v' => ∃ z : Nat, z ≤ 1 ∧ r = some (.int (nI z)) ∧ okv v' ∧ mdf [66] v v') := by
  refine CS.of (by decide) (Nat.le_of_ble_eq_true rfl) ?_
  generalize hQe : (fun (r : Option Value) (v' : Nat → Int32) => ∃ z : Nat, z ≤ 1 ∧ r = some (.int (nI z)) ∧ okv v' ∧ mdf [66] v v') = Q
  have hQ : ∀ (z : Nat) (u : Nat → Int32), z ≤ 1 → okv u → mdf [66] v u → Q (some (.int (nI z))) u := by rw [← hQe]; exact fun z u hz h1 h2  => ⟨z, hz, rfl, h1, h2⟩
  clear hQe
  have hm : mdf [66] v v := mdf.rf
  show ST G mi_Mo_tamper 0 [(0, .ref 373), (1, .int (nI 3)), (2, .int (nI 1)), (3, .int (nI i)), (4, .int mask)] [] v 0 0 Q
  refine ST.lift (fun _ _ k => T_aload_n (v := .ref 373) d_Mo_tamper_0 rfl (Or.inr ⟨_, rfl⟩) k) ?_
  refine ST.lift (fun _ _ k => T_iconst (v := nI 0) d_Mo_tamper_1 (by decide) k) ?_
  refine S_putfield (v' := va_up v 66 (nI 0)) d_Mo_tamper_2 (fp_Mo_316 _) (w373 _) (Nat.le_of_ble_eq_true rfl) ⟨rfl, rfl⟩ (u373_0 _ _) ?_
  have hv2 := hv.off (j := 66) (x := (nI 0)) (by decide)
  have hm3 := hm.go (mdf.up (v := v) (j := 66) (x := (nI 0))) (by intro i hi; simp only [List.mem_cons, List.not_mem_nil, or_false] at hi ⊢ <;> omega)
  have e_u1 : (va_up v 66 (nI 0)) 66 = (nI 0) := by simp [va_up]
  generalize va_up v 66 (nI 0) = u1 at hv2 hm3 e_u1 ⊢
  refine ST.lift (fun _ _ k => T_aload_n (v := .ref 373) d_Mo_tamper_5 rfl (Or.inr ⟨_, rfl⟩) k) ?_
  refine ST.lift (fun _ _ k => T_iload_n d_Mo_tamper_6 rfl k) ?_
  refine ST.lift (fun _ _ k => T_iload_n d_Mo_tamper_7 rfl k) ?_
  refine ST.lift (fun _ _ k => T_iload_n d_Mo_tamper_8 rfl k) ?_
  refine S_virtual (as := [.int (nI 3), .int (nI 1), .int (nI i)]) (rest := []) (b := 373) d_Mo_tamper_9 rfl (jw_Mo_isWire.jo (by decide)) lm_Mo_595 ji_Mo_isWire js_Mo_isWire (w373 _) rfl rfl rfl (Nat.le_of_ble_eq_true rfl) (by decide) (by decide) (c_Mo_isWire_3_1 G u1 i (by omega) hv2) (fun r u4 hq => ?_)
  obtain ⟨z7, hz7, hiz7, hr, hv5, hm6⟩ := hq
  rw [hr]
  clear hr r
  have hm8 := hm3.go hm6 (by intro i hi; simp only [List.mem_cons, List.not_mem_nil, or_false] at hi ⊢ <;> omega)
  have e9 : u4 66 = nI 0 := (hm6 66 (by decide)).trans e_u1
  show ST G mi_Mo_tamper 12 [(0, .ref 373), (1, .int (nI 3)), (2, .int (nI 1)), (3, .int (nI i)), (4, .int mask)] [.int (nI z7)] u4 0 0 _
  refine S_if_neN d_Mo_tamper_12 rfl (by omega) (fun c10 => ?_) (fun c10 => ?_)
  · refine ST.lift (fun _ _ k => T_iload_n d_Mo_tamper_17 rfl k) ?_
    refine ST.lift (fun _ _ k => T_iconst (v := nI 1) d_Mo_tamper_18 (by decide) k) ?_
    refine S_icmp_neN d_Mo_tamper_19 rfl (by omega) (by omega) (fun c => by first | exact absurd c (by omega) | exact c.elim | exact absurd c (by decide) | exact absurd (by assumption) c | exact absurd c (by assumption)) (fun _ => ?_)
    refine ST.lift (fun _ _ k => T_aload_n (v := .ref 373) d_Mo_tamper_22 rfl (Or.inr ⟨_, rfl⟩) k) ?_
    refine S_getfield d_Mo_tamper_23 fg_Mo_419 (w373 _) rfl ?_
    refine ST.lift (fun _ _ k => T_bipush (v := nI 96) d_Mo_tamper_26 (by decide) k) ?_
    refine ST.lift (fun _ _ k => T_iload_n d_Mo_tamper_28 rfl k) ?_
    refine S_imulN d_Mo_tamper_29 ?_
    refine S_topi (y := nI 288) (by decide) ?_
    refine ST.lift (fun _ _ k => T_iload_n d_Mo_tamper_30 rfl k) ?_
    refine S_iaddN d_Mo_tamper_31 ?_
    refine ST.lift (fun _ _ k => T_dup2 d_Mo_tamper_32 rfl rfl k) ?_
    refine S_iaload d_Mo_tamper_33 a433 (vp_in_nI (by omega) (by omega)) (fun z11 => ?_)
    refine ST.lift (fun _ _ k => T_iload d_Mo_tamper_34 rfl k) ?_
    refine ST.lift (fun _ _ k => T_sipush (v := nI 255) d_Mo_tamper_36 (by decide) k) ?_
    refine S_iandM 8 d_Mo_tamper_39 (by decide) (by decide) (fun j12 hj12 => ?_)
    simp only [Nat.reducePow] at hj12
    refine ST.lift (fun _ _ k => T_ixor d_Mo_tamper_40 k) (S_anyi fun z13 => ?_)
    refine S_iastore d_Mo_tamper_41 (by decide) a433 (vp_in_nI (by omega) (by omega)) ?_
    refine ST.lift (fun _ _ k => T_iload_n d_Mo_tamper_42 rfl k) ?_
    refine ST.lift (fun _ _ k => T_iconst (v := nI 2) d_Mo_tamper_43 (by decide) k) ?_
    refine S_icmp_neN d_Mo_tamper_44 rfl (by omega) (by omega) (fun _ => ?_) (fun c => by first | exact absurd c (by omega) | exact c.elim | exact absurd c (by decide) | exact absurd (by assumption) c | exact absurd c (by assumption))
    refine ST.lift (fun _ _ k => T_iload_n d_Mo_tamper_68 rfl k) ?_
    refine ST.lift (fun _ _ k => T_iconst (v := nI 3) d_Mo_tamper_69 (by decide) k) ?_
    refine S_icmp_neN d_Mo_tamper_70 rfl (by omega) (by omega) (fun _ => ?_) (fun c => by first | exact absurd c (by omega) | exact c.elim | exact absurd c (by decide) | exact absurd (by assumption) c | exact absurd c (by assumption))
    refine ST.lift (fun _ _ k => T_iconst (v := nI 1) d_Mo_tamper_93 (by decide) k) ?_
    exact S_ret d_Mo_tamper_94 rfl (nar_z (by omega)) (by decide) (by decide) (hQ 1 _ (by omega) hv5 hm8)
  · refine ST.lift (fun _ _ k => T_iconst (v := nI 0) d_Mo_tamper_15 (by decide) k) ?_
    exact S_ret d_Mo_tamper_16 rfl (nar_z (by omega)) (by decide) (by decide) (hQ 0 _ (by omega) hv5 hm8)
set_option maxRecDepth 100000 in
set_option maxHeartbeats 4000000 in
theorem c_Mo_isWire_3_2 (G : GX) (v : Nat → Int32) (i : Nat) (b_i : i < 2147483648) (hv : okv v) : CS G mi_Mo_isWire [.ref 373, .int (nI 3), .int (nI 2), .int (nI i)] v (fun r v' => ∃ z : Nat, z ≤ 1 ∧ (z = 1 → i < 320) ∧ r = some (.int (nI z)) ∧ okv v' ∧ mdf [] v v') := by
  refine CS.of (by decide) (Nat.le_of_ble_eq_true rfl) ?_
  generalize hQe : (fun (r : Option Value) (v' : Nat → Int32) => ∃ z : Nat, z ≤ 1 ∧ (z = 1 → i < 320) ∧ r = some (.int (nI z)) ∧ okv v' ∧ mdf [] v v') = Q
  have hQ : ∀ (z : Nat) (u : Nat → Int32), z ≤ 1 → (z = 1 → i < 320) → okv u → mdf [] v u → Q (some (.int (nI z))) u := by rw [← hQe]; exact fun z u hz hi h1 h2  => ⟨z, hz, hi, rfl, h1, h2⟩
  clear hQe
  have hm : mdf [] v v := mdf.rf
  show ST G mi_Mo_isWire 0 [(0, .ref 373), (1, .int (nI 3)), (2, .int (nI 2)), (3, .int (nI i))] [] v 0 0 Q
  refine ST.lift (fun _ _ k => T_iload_n d_Mo_isWire_0 rfl k) ?_
  refine S_static (as := [.int (nI 3)]) (rest := []) d_Mo_isWire_1 rfl (jw_Mo_isSession.jo (by decide)) lm_Mo_545 jt_Mo_isSession rfl (Nat.le_of_ble_eq_true rfl) (by decide) (by decide) (c_Mo_isSession G v 3 (by omega)) (fun r v' hq => ?_)
  rw [hq.1, hq.2]
  clear hq r v'
  show ST G mi_Mo_isWire 4 [(0, .ref 373), (1, .int (nI 3)), (2, .int (nI 2)), (3, .int (nI i))] [.int (nI 1)] v 0 0 _
  refine S_if_eqN d_Mo_isWire_4 rfl (by omega) (fun c => by first | exact absurd c (by omega) | exact c.elim | exact absurd c (by decide) | exact absurd (by assumption) c | exact absurd c (by assumption)) (fun _ => ?_)
  refine ST.lift (fun _ _ k => T_iload_n d_Mo_isWire_7 rfl k) ?_
  refine S_if_geN d_Mo_isWire_8 rfl (by omega) (fun _ => ?_) (fun c => by first | exact absurd c (by omega) | exact c.elim | exact absurd c (by decide) | exact absurd (by assumption) c | exact absurd c (by assumption))
  refine ST.lift (fun _ _ k => T_iload_n d_Mo_isWire_13 rfl k) ?_
  refine ST.lift (fun _ _ k => T_iconst (v := nI 1) d_Mo_isWire_14 (by decide) k) ?_
  refine S_icmp_neN d_Mo_isWire_15 rfl (by omega) (by omega) (fun _ => ?_) (fun c => by first | exact absurd c (by omega) | exact c.elim | exact absurd c (by decide) | exact absurd (by assumption) c | exact absurd c (by assumption))
  refine ST.lift (fun _ _ k => T_iload_n d_Mo_isWire_39 rfl k) ?_
  refine ST.lift (fun _ _ k => T_iconst (v := nI 2) d_Mo_isWire_40 (by decide) k) ?_
  refine S_icmp_neN d_Mo_isWire_41 rfl (by omega) (by omega) (fun c => by first | exact absurd c (by omega) | exact c.elim | exact absurd c (by decide) | exact absurd (by assumption) c | exact absurd c (by assumption)) (fun _ => ?_)
  refine ST.lift (fun _ _ k => T_aload_n (v := .ref 373) d_Mo_isWire_44 rfl (Or.inr ⟨_, rfl⟩) k) ?_
  refine S_getfield d_Mo_isWire_45 fg_Mo_395 (w373 _) rfl ?_
  refine ST.lift (fun _ _ k => T_iload_n d_Mo_isWire_48 rfl k) ?_
  refine S_xload (t := 3) (k := 3) (Or.inr ⟨rfl, d_Mo_isWire_49⟩) rfl (w425 _) (by decide) (by decide) ?_
  refine S_topi (y := v 103) rfl ?_
  refine S_if_eq d_Mo_isWire_50 rfl (fun c1 => ?_) (fun c1 => ?_)
  · refine ST.lift (fun _ _ k => T_iconst (v := nI 0) d_Mo_isWire_64 (by decide) k) ?_
    exact S_ret d_Mo_isWire_65 rfl (nar_z (by omega)) (by decide) (by decide) (hQ 0 _ (by omega) (by omega) hv hm)
  · refine ST.lift (fun _ _ k => T_iload_n d_Mo_isWire_53 rfl k) ?_
    refine ST.lift (fun _ _ k => T_sipush (v := nI 320) d_Mo_isWire_54 (by decide) k) ?_
    refine S_icmp_geN d_Mo_isWire_57 rfl (by omega) (by omega) (fun c2 => ?_) (fun c2 => ?_)
    · refine ST.lift (fun _ _ k => T_iconst (v := nI 0) d_Mo_isWire_64 (by decide) k) ?_
      exact S_ret d_Mo_isWire_65 rfl (nar_z (by omega)) (by decide) (by decide) (hQ 0 _ (by omega) (by omega) hv hm)
    · refine ST.lift (fun _ _ k => T_iconst (v := nI 1) d_Mo_isWire_60 (by decide) k) ?_
      refine ST.lift (fun _ _ k => T_goto (tgt := 65) d_Mo_isWire_61 rfl k) ?_
      exact S_ret d_Mo_isWire_65 rfl (nar_z (by omega)) (by decide) (by decide) (hQ 1 _ (by omega) (by omega) hv hm)
set_option maxRecDepth 100000 in
set_option maxHeartbeats 4000000 in
theorem c_Mo_wire_3_2 (G : GX) (v : Nat → Int32) (i : Nat) (b_i : i < 2147483648) (hv : okv v) : CS G mi_Mo_wire [.ref 373, .int (nI 3), .int (nI 2), .int (nI i)] v (fun r v' => ∃ z : Int32, r = some (.int z) ∧ okv v' ∧ mdf [66] v v') := by
  refine CS.of (by decide) (Nat.le_of_ble_eq_true rfl) ?_
  generalize hQe : (fun (r : Option Value) (v' : Nat → Int32) => ∃ z : Int32, r = some (.int z) ∧ okv v' ∧ mdf [66] v v') = Q
  have hQ : ∀ (z : Int32) (u : Nat → Int32), okv u → mdf [66] v u → Q (some (.int z)) u := by rw [← hQe]; exact fun z u h1 h2  => ⟨z, rfl, h1, h2⟩
  clear hQe
  have hm : mdf [66] v v := mdf.rf
  show ST G mi_Mo_wire 0 [(0, .ref 373), (1, .int (nI 3)), (2, .int (nI 2)), (3, .int (nI i))] [] v 0 0 Q
  refine ST.lift (fun _ _ k => T_aload_n (v := .ref 373) d_Mo_wire_0 rfl (Or.inr ⟨_, rfl⟩) k) ?_
  refine ST.lift (fun _ _ k => T_iconst (v := nI 0) d_Mo_wire_1 (by decide) k) ?_
  refine S_putfield (v' := va_up v 66 (nI 0)) d_Mo_wire_2 (fp_Mo_316 _) (w373 _) (Nat.le_of_ble_eq_true rfl) ⟨rfl, rfl⟩ (u373_0 _ _) ?_
  have hv2 := hv.off (j := 66) (x := (nI 0)) (by decide)
  have hm3 := hm.go (mdf.up (v := v) (j := 66) (x := (nI 0))) (by intro i hi; simp only [List.mem_cons, List.not_mem_nil, or_false] at hi ⊢ <;> omega)
  have e_u1 : (va_up v 66 (nI 0)) 66 = (nI 0) := by simp [va_up]
  generalize va_up v 66 (nI 0) = u1 at hv2 hm3 e_u1 ⊢
  refine ST.lift (fun _ _ k => T_aload_n (v := .ref 373) d_Mo_wire_5 rfl (Or.inr ⟨_, rfl⟩) k) ?_
  refine ST.lift (fun _ _ k => T_iload_n d_Mo_wire_6 rfl k) ?_
  refine ST.lift (fun _ _ k => T_iload_n d_Mo_wire_7 rfl k) ?_
  refine ST.lift (fun _ _ k => T_iload_n d_Mo_wire_8 rfl k) ?_
  refine S_virtual (as := [.int (nI 3), .int (nI 2), .int (nI i)]) (rest := []) (b := 373) d_Mo_wire_9 rfl (jw_Mo_isWire.jo (by decide)) lm_Mo_595 ji_Mo_isWire js_Mo_isWire (w373 _) rfl rfl rfl (Nat.le_of_ble_eq_true rfl) (by decide) (by decide) (c_Mo_isWire_3_2 G u1 i (by omega) hv2) (fun r u4 hq => ?_)
  obtain ⟨z7, hz7, hiz7, hr, hv5, hm6⟩ := hq
  rw [hr]
  clear hr r
  have hm8 := hm3.go hm6 (by intro i hi; simp only [List.mem_cons, List.not_mem_nil, or_false] at hi ⊢ <;> omega)
  have e9 : u4 66 = nI 0 := (hm6 66 (by decide)).trans e_u1
  show ST G mi_Mo_wire 12 [(0, .ref 373), (1, .int (nI 3)), (2, .int (nI 2)), (3, .int (nI i))] [.int (nI z7)] u4 0 0 _
  refine S_if_neN d_Mo_wire_12 rfl (by omega) (fun c10 => ?_) (fun c10 => ?_)
  · refine ST.lift (fun _ _ k => T_iload_n d_Mo_wire_22 rfl k) ?_
    refine ST.lift (fun _ _ k => T_iconst (v := nI 1) d_Mo_wire_23 (by decide) k) ?_
    refine S_icmp_neN d_Mo_wire_24 rfl (by omega) (by omega) (fun _ => ?_) (fun c => by first | exact absurd c (by omega) | exact c.elim | exact absurd c (by decide) | exact absurd (by assumption) c | exact absurd c (by assumption))
    refine ST.lift (fun _ _ k => T_iload_n d_Mo_wire_39 rfl k) ?_
    refine ST.lift (fun _ _ k => T_iconst (v := nI 2) d_Mo_wire_40 (by decide) k) ?_
    refine S_icmp_neN d_Mo_wire_41 rfl (by omega) (by omega) (fun c => by first | exact absurd c (by omega) | exact c.elim | exact absurd c (by decide) | exact absurd (by assumption) c | exact absurd c (by assumption)) (fun _ => ?_)
    refine ST.lift (fun _ _ k => T_aload_n (v := .ref 373) d_Mo_wire_44 rfl (Or.inr ⟨_, rfl⟩) k) ?_
    refine S_getfield d_Mo_wire_45 fg_Mo_422 (w373 _) rfl ?_
    refine ST.lift (fun _ _ k => T_sipush (v := nI 320) d_Mo_wire_48 (by decide) k) ?_
    refine ST.lift (fun _ _ k => T_iload_n d_Mo_wire_51 rfl k) ?_
    refine S_imulN d_Mo_wire_52 ?_
    refine S_topi (y := nI 960) (by decide) ?_
    refine ST.lift (fun _ _ k => T_iload_n d_Mo_wire_53 rfl k) ?_
    refine S_iaddN d_Mo_wire_54 ?_
    refine S_iaload d_Mo_wire_55 a434 (vp_in_nI (by omega) (by omega)) (fun z11 => ?_)
    exact S_ret d_Mo_wire_56 rfl rfl (by decide) (by decide) (hQ _ _ hv5 hm8)
  · refine ST.lift (fun _ _ k => T_aload_n (v := .ref 373) d_Mo_wire_15 rfl (Or.inr ⟨_, rfl⟩) k) ?_
    refine ST.lift (fun _ _ k => T_iconst (v := nI 1) d_Mo_wire_16 (by decide) k) ?_
    refine S_putfield (v' := va_up u4 66 (nI 1)) d_Mo_wire_17 (fp_Mo_316 _) (w373 _) (Nat.le_of_ble_eq_true rfl) ⟨rfl, rfl⟩ (u373_0 _ _) ?_
    have hv13 := hv5.off (j := 66) (x := (nI 1)) (by decide)
    have hm14 := hm8.go (mdf.up (v := u4) (j := 66) (x := (nI 1))) (by intro i hi; simp only [List.mem_cons, List.not_mem_nil, or_false] at hi ⊢ <;> omega)
    have e_u12 : (va_up u4 66 (nI 1)) 66 = (nI 1) := by simp [va_up]
    generalize va_up u4 66 (nI 1) = u12 at hv13 hm14 e_u12 ⊢
    refine ST.lift (fun _ _ k => T_iconst (v := nI 0) d_Mo_wire_20 (by decide) k) ?_
    exact S_ret d_Mo_wire_21 rfl rfl (by decide) (by decide) (hQ _ _ hv13 hm14)
set_option maxRecDepth 100000 in
set_option maxHeartbeats 4000000 in
theorem c_Mo_tamper_3_2 (G : GX) (v : Nat → Int32) (i : Nat) (b_i : i < 2147483648) (mask : Int32) (hv : okv v) : CS G mi_Mo_tamper [.ref 373, .int (nI 3), .int (nI 2), .int (nI i), .int mask] v (fun r v' => ∃ z : Nat, z ≤ 1 ∧ r = some (.int (nI z)) ∧ okv v' ∧ mdf [66] v v') := by
  refine CS.of (by decide) (Nat.le_of_ble_eq_true rfl) ?_
  generalize hQe : (fun (r : Option Value) (v' : Nat → Int32) => ∃ z : Nat, z ≤ 1 ∧ r = some (.int (nI z)) ∧ okv v' ∧ mdf [66] v v') = Q
  have hQ : ∀ (z : Nat) (u : Nat → Int32), z ≤ 1 → okv u → mdf [66] v u → Q (some (.int (nI z))) u := by rw [← hQe]; exact fun z u hz h1 h2  => ⟨z, hz, rfl, h1, h2⟩
  clear hQe
  have hm : mdf [66] v v := mdf.rf
  show ST G mi_Mo_tamper 0 [(0, .ref 373), (1, .int (nI 3)), (2, .int (nI 2)), (3, .int (nI i)), (4, .int mask)] [] v 0 0 Q
  refine ST.lift (fun _ _ k => T_aload_n (v := .ref 373) d_Mo_tamper_0 rfl (Or.inr ⟨_, rfl⟩) k) ?_
  refine ST.lift (fun _ _ k => T_iconst (v := nI 0) d_Mo_tamper_1 (by decide) k) ?_
  refine S_putfield (v' := va_up v 66 (nI 0)) d_Mo_tamper_2 (fp_Mo_316 _) (w373 _) (Nat.le_of_ble_eq_true rfl) ⟨rfl, rfl⟩ (u373_0 _ _) ?_
  have hv2 := hv.off (j := 66) (x := (nI 0)) (by decide)
  have hm3 := hm.go (mdf.up (v := v) (j := 66) (x := (nI 0))) (by intro i hi; simp only [List.mem_cons, List.not_mem_nil, or_false] at hi ⊢ <;> omega)
  have e_u1 : (va_up v 66 (nI 0)) 66 = (nI 0) := by simp [va_up]
  generalize va_up v 66 (nI 0) = u1 at hv2 hm3 e_u1 ⊢
  refine ST.lift (fun _ _ k => T_aload_n (v := .ref 373) d_Mo_tamper_5 rfl (Or.inr ⟨_, rfl⟩) k) ?_
  refine ST.lift (fun _ _ k => T_iload_n d_Mo_tamper_6 rfl k) ?_
  refine ST.lift (fun _ _ k => T_iload_n d_Mo_tamper_7 rfl k) ?_
  refine ST.lift (fun _ _ k => T_iload_n d_Mo_tamper_8 rfl k) ?_
  refine S_virtual (as := [.int (nI 3), .int (nI 2), .int (nI i)]) (rest := []) (b := 373) d_Mo_tamper_9 rfl (jw_Mo_isWire.jo (by decide)) lm_Mo_595 ji_Mo_isWire js_Mo_isWire (w373 _) rfl rfl rfl (Nat.le_of_ble_eq_true rfl) (by decide) (by decide) (c_Mo_isWire_3_2 G u1 i (by omega) hv2) (fun r u4 hq => ?_)
  obtain ⟨z7, hz7, hiz7, hr, hv5, hm6⟩ := hq
  rw [hr]
  clear hr r
  have hm8 := hm3.go hm6 (by intro i hi; simp only [List.mem_cons, List.not_mem_nil, or_false] at hi ⊢ <;> omega)
  have e9 : u4 66 = nI 0 := (hm6 66 (by decide)).trans e_u1
  show ST G mi_Mo_tamper 12 [(0, .ref 373), (1, .int (nI 3)), (2, .int (nI 2)), (3, .int (nI i)), (4, .int mask)] [.int (nI z7)] u4 0 0 _
  refine S_if_neN d_Mo_tamper_12 rfl (by omega) (fun c10 => ?_) (fun c10 => ?_)
  · refine ST.lift (fun _ _ k => T_iload_n d_Mo_tamper_17 rfl k) ?_
    refine ST.lift (fun _ _ k => T_iconst (v := nI 1) d_Mo_tamper_18 (by decide) k) ?_
    refine S_icmp_neN d_Mo_tamper_19 rfl (by omega) (by omega) (fun _ => ?_) (fun c => by first | exact absurd c (by omega) | exact c.elim | exact absurd c (by decide) | exact absurd (by assumption) c | exact absurd c (by assumption))
    refine ST.lift (fun _ _ k => T_iload_n d_Mo_tamper_42 rfl k) ?_
    refine ST.lift (fun _ _ k => T_iconst (v := nI 2) d_Mo_tamper_43 (by decide) k) ?_
    refine S_icmp_neN d_Mo_tamper_44 rfl (by omega) (by omega) (fun c => by first | exact absurd c (by omega) | exact c.elim | exact absurd c (by decide) | exact absurd (by assumption) c | exact absurd c (by assumption)) (fun _ => ?_)
    refine ST.lift (fun _ _ k => T_aload_n (v := .ref 373) d_Mo_tamper_47 rfl (Or.inr ⟨_, rfl⟩) k) ?_
    refine S_getfield d_Mo_tamper_48 fg_Mo_422 (w373 _) rfl ?_
    refine ST.lift (fun _ _ k => T_sipush (v := nI 320) d_Mo_tamper_51 (by decide) k) ?_
    refine ST.lift (fun _ _ k => T_iload_n d_Mo_tamper_54 rfl k) ?_
    refine S_imulN d_Mo_tamper_55 ?_
    refine S_topi (y := nI 960) (by decide) ?_
    refine ST.lift (fun _ _ k => T_iload_n d_Mo_tamper_56 rfl k) ?_
    refine S_iaddN d_Mo_tamper_57 ?_
    refine ST.lift (fun _ _ k => T_dup2 d_Mo_tamper_58 rfl rfl k) ?_
    refine S_iaload d_Mo_tamper_59 a434 (vp_in_nI (by omega) (by omega)) (fun z11 => ?_)
    refine ST.lift (fun _ _ k => T_iload d_Mo_tamper_60 rfl k) ?_
    refine ST.lift (fun _ _ k => T_sipush (v := nI 255) d_Mo_tamper_62 (by decide) k) ?_
    refine S_iandM 8 d_Mo_tamper_65 (by decide) (by decide) (fun j12 hj12 => ?_)
    simp only [Nat.reducePow] at hj12
    refine ST.lift (fun _ _ k => T_ixor d_Mo_tamper_66 k) (S_anyi fun z13 => ?_)
    refine S_iastore d_Mo_tamper_67 (by decide) a434 (vp_in_nI (by omega) (by omega)) ?_
    refine ST.lift (fun _ _ k => T_iload_n d_Mo_tamper_68 rfl k) ?_
    refine ST.lift (fun _ _ k => T_iconst (v := nI 3) d_Mo_tamper_69 (by decide) k) ?_
    refine S_icmp_neN d_Mo_tamper_70 rfl (by omega) (by omega) (fun _ => ?_) (fun c => by first | exact absurd c (by omega) | exact c.elim | exact absurd c (by decide) | exact absurd (by assumption) c | exact absurd c (by assumption))
    refine ST.lift (fun _ _ k => T_iconst (v := nI 1) d_Mo_tamper_93 (by decide) k) ?_
    exact S_ret d_Mo_tamper_94 rfl (nar_z (by omega)) (by decide) (by decide) (hQ 1 _ (by omega) hv5 hm8)
  · refine ST.lift (fun _ _ k => T_iconst (v := nI 0) d_Mo_tamper_15 (by decide) k) ?_
    exact S_ret d_Mo_tamper_16 rfl (nar_z (by omega)) (by decide) (by decide) (hQ 0 _ (by omega) hv5 hm8)
set_option maxRecDepth 100000 in
set_option maxHeartbeats 4000000 in
theorem c_Mo_isWire_3_3 (G : GX) (v : Nat → Int32) (i : Nat) (b_i : i < 2147483648) (hv : okv v) : CS G mi_Mo_isWire [.ref 373, .int (nI 3), .int (nI 3), .int (nI i)] v (fun r v' => ∃ z : Nat, z ≤ 1 ∧ (z = 1 → i < 64) ∧ r = some (.int (nI z)) ∧ okv v' ∧ mdf [] v v') := by
  refine CS.of (by decide) (Nat.le_of_ble_eq_true rfl) ?_
  generalize hQe : (fun (r : Option Value) (v' : Nat → Int32) => ∃ z : Nat, z ≤ 1 ∧ (z = 1 → i < 64) ∧ r = some (.int (nI z)) ∧ okv v' ∧ mdf [] v v') = Q
  have hQ : ∀ (z : Nat) (u : Nat → Int32), z ≤ 1 → (z = 1 → i < 64) → okv u → mdf [] v u → Q (some (.int (nI z))) u := by rw [← hQe]; exact fun z u hz hi h1 h2  => ⟨z, hz, hi, rfl, h1, h2⟩
  clear hQe
  have hm : mdf [] v v := mdf.rf
  show ST G mi_Mo_isWire 0 [(0, .ref 373), (1, .int (nI 3)), (2, .int (nI 3)), (3, .int (nI i))] [] v 0 0 Q
  refine ST.lift (fun _ _ k => T_iload_n d_Mo_isWire_0 rfl k) ?_
  refine S_static (as := [.int (nI 3)]) (rest := []) d_Mo_isWire_1 rfl (jw_Mo_isSession.jo (by decide)) lm_Mo_545 jt_Mo_isSession rfl (Nat.le_of_ble_eq_true rfl) (by decide) (by decide) (c_Mo_isSession G v 3 (by omega)) (fun r v' hq => ?_)
  rw [hq.1, hq.2]
  clear hq r v'
  show ST G mi_Mo_isWire 4 [(0, .ref 373), (1, .int (nI 3)), (2, .int (nI 3)), (3, .int (nI i))] [.int (nI 1)] v 0 0 _
  refine S_if_eqN d_Mo_isWire_4 rfl (by omega) (fun c => by first | exact absurd c (by omega) | exact c.elim | exact absurd c (by decide) | exact absurd (by assumption) c | exact absurd c (by assumption)) (fun _ => ?_)
  refine ST.lift (fun _ _ k => T_iload_n d_Mo_isWire_7 rfl k) ?_
  refine S_if_geN d_Mo_isWire_8 rfl (by omega) (fun _ => ?_) (fun c => by first | exact absurd c (by omega) | exact c.elim | exact absurd c (by decide) | exact absurd (by assumption) c | exact absurd c (by assumption))
  refine ST.lift (fun _ _ k => T_iload_n d_Mo_isWire_13 rfl k) ?_
  refine ST.lift (fun _ _ k => T_iconst (v := nI 1) d_Mo_isWire_14 (by decide) k) ?_
  refine S_icmp_neN d_Mo_isWire_15 rfl (by omega) (by omega) (fun _ => ?_) (fun c => by first | exact absurd c (by omega) | exact c.elim | exact absurd c (by decide) | exact absurd (by assumption) c | exact absurd c (by assumption))
  refine ST.lift (fun _ _ k => T_iload_n d_Mo_isWire_39 rfl k) ?_
  refine ST.lift (fun _ _ k => T_iconst (v := nI 2) d_Mo_isWire_40 (by decide) k) ?_
  refine S_icmp_neN d_Mo_isWire_41 rfl (by omega) (by omega) (fun _ => ?_) (fun c => by first | exact absurd c (by omega) | exact c.elim | exact absurd c (by decide) | exact absurd (by assumption) c | exact absurd c (by assumption))
  refine ST.lift (fun _ _ k => T_iload_n d_Mo_isWire_66 rfl k) ?_
  refine ST.lift (fun _ _ k => T_iconst (v := nI 3) d_Mo_isWire_67 (by decide) k) ?_
  refine S_icmp_neN d_Mo_isWire_68 rfl (by omega) (by omega) (fun c => by first | exact absurd c (by omega) | exact c.elim | exact absurd c (by decide) | exact absurd (by assumption) c | exact absurd c (by assumption)) (fun _ => ?_)
  refine ST.lift (fun _ _ k => T_aload_n (v := .ref 373) d_Mo_isWire_71 rfl (Or.inr ⟨_, rfl⟩) k) ?_
  refine S_getfield d_Mo_isWire_72 fg_Mo_398 (w373 _) rfl ?_
  refine ST.lift (fun _ _ k => T_iload_n d_Mo_isWire_75 rfl k) ?_
  refine S_xload (t := 3) (k := 3) (Or.inr ⟨rfl, d_Mo_isWire_76⟩) rfl (w426 _) (by decide) (by decide) ?_
  refine S_topi (y := v 107) rfl ?_
  refine S_if_eq d_Mo_isWire_77 rfl (fun c1 => ?_) (fun c1 => ?_)
  · refine ST.lift (fun _ _ k => T_iconst (v := nI 0) d_Mo_isWire_90 (by decide) k) ?_
    exact S_ret d_Mo_isWire_91 rfl (nar_z (by omega)) (by decide) (by decide) (hQ 0 _ (by omega) (by omega) hv hm)
  · refine ST.lift (fun _ _ k => T_iload_n d_Mo_isWire_80 rfl k) ?_
    refine ST.lift (fun _ _ k => T_bipush (v := nI 64) d_Mo_isWire_81 (by decide) k) ?_
    refine S_icmp_geN d_Mo_isWire_83 rfl (by omega) (by omega) (fun c2 => ?_) (fun c2 => ?_)
    · refine ST.lift (fun _ _ k => T_iconst (v := nI 0) d_Mo_isWire_90 (by decide) k) ?_
      exact S_ret d_Mo_isWire_91 rfl (nar_z (by omega)) (by decide) (by decide) (hQ 0 _ (by omega) (by omega) hv hm)
    · refine ST.lift (fun _ _ k => T_iconst (v := nI 1) d_Mo_isWire_86 (by decide) k) ?_
      refine ST.lift (fun _ _ k => T_goto (tgt := 91) d_Mo_isWire_87 rfl k) ?_
      exact S_ret d_Mo_isWire_91 rfl (nar_z (by omega)) (by decide) (by decide) (hQ 1 _ (by omega) (by omega) hv hm)
set_option maxRecDepth 100000 in
set_option maxHeartbeats 4000000 in
theorem c_Mo_wire_3_3 (G : GX) (v : Nat → Int32) (i : Nat) (b_i : i < 2147483648) (hv : okv v) : CS G mi_Mo_wire [.ref 373, .int (nI 3), .int (nI 3), .int (nI i)] v (fun r v' => ∃ z : Int32, r = some (.int z) ∧ okv v' ∧ mdf [66] v v') := by
  refine CS.of (by decide) (Nat.le_of_ble_eq_true rfl) ?_
  generalize hQe : (fun (r : Option Value) (v' : Nat → Int32) => ∃ z : Int32, r = some (.int z) ∧ okv v' ∧ mdf [66] v v') = Q
  have hQ : ∀ (z : Int32) (u : Nat → Int32), okv u → mdf [66] v u → Q (some (.int z)) u := by rw [← hQe]; exact fun z u h1 h2  => ⟨z, rfl, h1, h2⟩
  clear hQe
  have hm : mdf [66] v v := mdf.rf
  show ST G mi_Mo_wire 0 [(0, .ref 373), (1, .int (nI 3)), (2, .int (nI 3)), (3, .int (nI i))] [] v 0 0 Q
  refine ST.lift (fun _ _ k => T_aload_n (v := .ref 373) d_Mo_wire_0 rfl (Or.inr ⟨_, rfl⟩) k) ?_
  refine ST.lift (fun _ _ k => T_iconst (v := nI 0) d_Mo_wire_1 (by decide) k) ?_
  refine S_putfield (v' := va_up v 66 (nI 0)) d_Mo_wire_2 (fp_Mo_316 _) (w373 _) (Nat.le_of_ble_eq_true rfl) ⟨rfl, rfl⟩ (u373_0 _ _) ?_
  have hv2 := hv.off (j := 66) (x := (nI 0)) (by decide)
  have hm3 := hm.go (mdf.up (v := v) (j := 66) (x := (nI 0))) (by intro i hi; simp only [List.mem_cons, List.not_mem_nil, or_false] at hi ⊢ <;> omega)
  have e_u1 : (va_up v 66 (nI 0)) 66 = (nI 0) := by simp [va_up]
  generalize va_up v 66 (nI 0) = u1 at hv2 hm3 e_u1 ⊢
  refine ST.lift (fun _ _ k => T_aload_n (v := .ref 373) d_Mo_wire_5 rfl (Or.inr ⟨_, rfl⟩) k) ?_
  refine ST.lift (fun _ _ k => T_iload_n d_Mo_wire_6 rfl k) ?_
  refine ST.lift (fun _ _ k => T_iload_n d_Mo_wire_7 rfl k) ?_
  refine ST.lift (fun _ _ k => T_iload_n d_Mo_wire_8 rfl k) ?_
  refine S_virtual (as := [.int (nI 3), .int (nI 3), .int (nI i)]) (rest := []) (b := 373) d_Mo_wire_9 rfl (jw_Mo_isWire.jo (by decide)) lm_Mo_595 ji_Mo_isWire js_Mo_isWire (w373 _) rfl rfl rfl (Nat.le_of_ble_eq_true rfl) (by decide) (by decide) (c_Mo_isWire_3_3 G u1 i (by omega) hv2) (fun r u4 hq => ?_)
  obtain ⟨z7, hz7, hiz7, hr, hv5, hm6⟩ := hq
  rw [hr]
  clear hr r
  have hm8 := hm3.go hm6 (by intro i hi; simp only [List.mem_cons, List.not_mem_nil, or_false] at hi ⊢ <;> omega)
  have e9 : u4 66 = nI 0 := (hm6 66 (by decide)).trans e_u1
  show ST G mi_Mo_wire 12 [(0, .ref 373), (1, .int (nI 3)), (2, .int (nI 3)), (3, .int (nI i))] [.int (nI z7)] u4 0 0 _
  refine S_if_neN d_Mo_wire_12 rfl (by omega) (fun c10 => ?_) (fun c10 => ?_)
  · refine ST.lift (fun _ _ k => T_iload_n d_Mo_wire_22 rfl k) ?_
    refine ST.lift (fun _ _ k => T_iconst (v := nI 1) d_Mo_wire_23 (by decide) k) ?_
    refine S_icmp_neN d_Mo_wire_24 rfl (by omega) (by omega) (fun _ => ?_) (fun c => by first | exact absurd c (by omega) | exact c.elim | exact absurd c (by decide) | exact absurd (by assumption) c | exact absurd c (by assumption))
    refine ST.lift (fun _ _ k => T_iload_n d_Mo_wire_39 rfl k) ?_
    refine ST.lift (fun _ _ k => T_iconst (v := nI 2) d_Mo_wire_40 (by decide) k) ?_
    refine S_icmp_neN d_Mo_wire_41 rfl (by omega) (by omega) (fun _ => ?_) (fun c => by first | exact absurd c (by omega) | exact c.elim | exact absurd c (by decide) | exact absurd (by assumption) c | exact absurd c (by assumption))
    refine ST.lift (fun _ _ k => T_aload_n (v := .ref 373) d_Mo_wire_57 rfl (Or.inr ⟨_, rfl⟩) k) ?_
    refine S_getfield d_Mo_wire_58 fg_Mo_425 (w373 _) rfl ?_
    refine ST.lift (fun _ _ k => T_bipush (v := nI 64) d_Mo_wire_61 (by decide) k) ?_
    refine ST.lift (fun _ _ k => T_iload_n d_Mo_wire_63 rfl k) ?_
    refine S_imulN d_Mo_wire_64 ?_
    refine S_topi (y := nI 192) (by decide) ?_
    refine ST.lift (fun _ _ k => T_iload_n d_Mo_wire_65 rfl k) ?_
    refine S_iaddN d_Mo_wire_66 ?_
    refine S_iaload d_Mo_wire_67 a435 (vp_in_nI (by omega) (by omega)) (fun z11 => ?_)
    exact S_ret d_Mo_wire_68 rfl rfl (by decide) (by decide) (hQ _ _ hv5 hm8)
  · refine ST.lift (fun _ _ k => T_aload_n (v := .ref 373) d_Mo_wire_15 rfl (Or.inr ⟨_, rfl⟩) k) ?_
    refine ST.lift (fun _ _ k => T_iconst (v := nI 1) d_Mo_wire_16 (by decide) k) ?_
    refine S_putfield (v' := va_up u4 66 (nI 1)) d_Mo_wire_17 (fp_Mo_316 _) (w373 _) (Nat.le_of_ble_eq_true rfl) ⟨rfl, rfl⟩ (u373_0 _ _) ?_
    have hv13 := hv5.off (j := 66) (x := (nI 1)) (by decide)
    have hm14 := hm8.go (mdf.up (v := u4) (j := 66) (x := (nI 1))) (by intro i hi; simp only [List.mem_cons, List.not_mem_nil, or_false] at hi ⊢ <;> omega)
    have e_u12 : (va_up u4 66 (nI 1)) 66 = (nI 1) := by simp [va_up]
    generalize va_up u4 66 (nI 1) = u12 at hv13 hm14 e_u12 ⊢
    refine ST.lift (fun _ _ k => T_iconst (v := nI 0) d_Mo_wire_20 (by decide) k) ?_
    exact S_ret d_Mo_wire_21 rfl rfl (by decide) (by decide) (hQ _ _ hv13 hm14)
set_option maxRecDepth 100000 in
set_option maxHeartbeats 4000000 in
theorem c_Mo_tamper_3_3 (G : GX) (v : Nat → Int32) (i : Nat) (b_i : i < 2147483648) (mask : Int32) (hv : okv v) : CS G mi_Mo_tamper [.ref 373, .int (nI 3), .int (nI 3), .int (nI i), .int mask] v (fun r v' => ∃ z : Nat, z ≤ 1 ∧ r = some (.int (nI z)) ∧ okv v' ∧ mdf [66] v v') := by
  refine CS.of (by decide) (Nat.le_of_ble_eq_true rfl) ?_
  generalize hQe : (fun (r : Option Value) (v' : Nat → Int32) => ∃ z : Nat, z ≤ 1 ∧ r = some (.int (nI z)) ∧ okv v' ∧ mdf [66] v v') = Q
  have hQ : ∀ (z : Nat) (u : Nat → Int32), z ≤ 1 → okv u → mdf [66] v u → Q (some (.int (nI z))) u := by rw [← hQe]; exact fun z u hz h1 h2  => ⟨z, hz, rfl, h1, h2⟩
  clear hQe
  have hm : mdf [66] v v := mdf.rf
  show ST G mi_Mo_tamper 0 [(0, .ref 373), (1, .int (nI 3)), (2, .int (nI 3)), (3, .int (nI i)), (4, .int mask)] [] v 0 0 Q
  refine ST.lift (fun _ _ k => T_aload_n (v := .ref 373) d_Mo_tamper_0 rfl (Or.inr ⟨_, rfl⟩) k) ?_
  refine ST.lift (fun _ _ k => T_iconst (v := nI 0) d_Mo_tamper_1 (by decide) k) ?_
  refine S_putfield (v' := va_up v 66 (nI 0)) d_Mo_tamper_2 (fp_Mo_316 _) (w373 _) (Nat.le_of_ble_eq_true rfl) ⟨rfl, rfl⟩ (u373_0 _ _) ?_
  have hv2 := hv.off (j := 66) (x := (nI 0)) (by decide)
  have hm3 := hm.go (mdf.up (v := v) (j := 66) (x := (nI 0))) (by intro i hi; simp only [List.mem_cons, List.not_mem_nil, or_false] at hi ⊢ <;> omega)
  have e_u1 : (va_up v 66 (nI 0)) 66 = (nI 0) := by simp [va_up]
  generalize va_up v 66 (nI 0) = u1 at hv2 hm3 e_u1 ⊢
  refine ST.lift (fun _ _ k => T_aload_n (v := .ref 373) d_Mo_tamper_5 rfl (Or.inr ⟨_, rfl⟩) k) ?_
  refine ST.lift (fun _ _ k => T_iload_n d_Mo_tamper_6 rfl k) ?_
  refine ST.lift (fun _ _ k => T_iload_n d_Mo_tamper_7 rfl k) ?_
  refine ST.lift (fun _ _ k => T_iload_n d_Mo_tamper_8 rfl k) ?_
  refine S_virtual (as := [.int (nI 3), .int (nI 3), .int (nI i)]) (rest := []) (b := 373) d_Mo_tamper_9 rfl (jw_Mo_isWire.jo (by decide)) lm_Mo_595 ji_Mo_isWire js_Mo_isWire (w373 _) rfl rfl rfl (Nat.le_of_ble_eq_true rfl) (by decide) (by decide) (c_Mo_isWire_3_3 G u1 i (by omega) hv2) (fun r u4 hq => ?_)
  obtain ⟨z7, hz7, hiz7, hr, hv5, hm6⟩ := hq
  rw [hr]
  clear hr r
  have hm8 := hm3.go hm6 (by intro i hi; simp only [List.mem_cons, List.not_mem_nil, or_false] at hi ⊢ <;> omega)
  have e9 : u4 66 = nI 0 := (hm6 66 (by decide)).trans e_u1
  show ST G mi_Mo_tamper 12 [(0, .ref 373), (1, .int (nI 3)), (2, .int (nI 3)), (3, .int (nI i)), (4, .int mask)] [.int (nI z7)] u4 0 0 _
  refine S_if_neN d_Mo_tamper_12 rfl (by omega) (fun c10 => ?_) (fun c10 => ?_)
  · refine ST.lift (fun _ _ k => T_iload_n d_Mo_tamper_17 rfl k) ?_
    refine ST.lift (fun _ _ k => T_iconst (v := nI 1) d_Mo_tamper_18 (by decide) k) ?_
    refine S_icmp_neN d_Mo_tamper_19 rfl (by omega) (by omega) (fun _ => ?_) (fun c => by first | exact absurd c (by omega) | exact c.elim | exact absurd c (by decide) | exact absurd (by assumption) c | exact absurd c (by assumption))
    refine ST.lift (fun _ _ k => T_iload_n d_Mo_tamper_42 rfl k) ?_
    refine ST.lift (fun _ _ k => T_iconst (v := nI 2) d_Mo_tamper_43 (by decide) k) ?_
    refine S_icmp_neN d_Mo_tamper_44 rfl (by omega) (by omega) (fun _ => ?_) (fun c => by first | exact absurd c (by omega) | exact c.elim | exact absurd c (by decide) | exact absurd (by assumption) c | exact absurd c (by assumption))
    refine ST.lift (fun _ _ k => T_iload_n d_Mo_tamper_68 rfl k) ?_
    refine ST.lift (fun _ _ k => T_iconst (v := nI 3) d_Mo_tamper_69 (by decide) k) ?_
    refine S_icmp_neN d_Mo_tamper_70 rfl (by omega) (by omega) (fun c => by first | exact absurd c (by omega) | exact c.elim | exact absurd c (by decide) | exact absurd (by assumption) c | exact absurd c (by assumption)) (fun _ => ?_)
    refine ST.lift (fun _ _ k => T_aload_n (v := .ref 373) d_Mo_tamper_73 rfl (Or.inr ⟨_, rfl⟩) k) ?_
    refine S_getfield d_Mo_tamper_74 fg_Mo_425 (w373 _) rfl ?_
    refine ST.lift (fun _ _ k => T_bipush (v := nI 64) d_Mo_tamper_77 (by decide) k) ?_
    refine ST.lift (fun _ _ k => T_iload_n d_Mo_tamper_79 rfl k) ?_
    refine S_imulN d_Mo_tamper_80 ?_
    refine S_topi (y := nI 192) (by decide) ?_
    refine ST.lift (fun _ _ k => T_iload_n d_Mo_tamper_81 rfl k) ?_
    refine S_iaddN d_Mo_tamper_82 ?_
    refine ST.lift (fun _ _ k => T_dup2 d_Mo_tamper_83 rfl rfl k) ?_
    refine S_iaload d_Mo_tamper_84 a435 (vp_in_nI (by omega) (by omega)) (fun z11 => ?_)
    refine ST.lift (fun _ _ k => T_iload d_Mo_tamper_85 rfl k) ?_
    refine ST.lift (fun _ _ k => T_sipush (v := nI 255) d_Mo_tamper_87 (by decide) k) ?_
    refine S_iandM 8 d_Mo_tamper_90 (by decide) (by decide) (fun j12 hj12 => ?_)
    simp only [Nat.reducePow] at hj12
    refine ST.lift (fun _ _ k => T_ixor d_Mo_tamper_91 k) (S_anyi fun z13 => ?_)
    refine S_iastore d_Mo_tamper_92 (by decide) a435 (vp_in_nI (by omega) (by omega)) ?_
    refine ST.lift (fun _ _ k => T_iconst (v := nI 1) d_Mo_tamper_93 (by decide) k) ?_
    exact S_ret d_Mo_tamper_94 rfl (nar_z (by omega)) (by decide) (by decide) (hQ 1 _ (by omega) hv5 hm8)
  · refine ST.lift (fun _ _ k => T_iconst (v := nI 0) d_Mo_tamper_15 (by decide) k) ?_
    exact S_ret d_Mo_tamper_16 rfl (nar_z (by omega)) (by decide) (by decide) (hQ 0 _ (by omega) hv5 hm8)

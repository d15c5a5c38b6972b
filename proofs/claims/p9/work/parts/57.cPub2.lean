set_option maxRecDepth 100000 in
set_option maxHeartbeats 4000000 in
theorem c_PG_isOnWire_sneg (G : GX) (v : Nat → Int32) (x : Int32) (y : Int32) (z : Int32) (hx_s : x < 0) (hv : okv v) : CS G mi_PG_isOnWire [.ref 61, .int x, .int y, .int z] v (fun r v' => r = some (.int (nI 0)) ∧ okv v' ∧ mdf [] v v') := by
  refine CS.of (by decide) (Nat.le_of_ble_eq_true rfl) ?_
  generalize hQe : (fun (r : Option Value) (v' : Nat → Int32) => r = some (.int (nI 0)) ∧ okv v' ∧ mdf [] v v') = Q
  have hQ : ∀ u, okv u → mdf [] v u → Q (some (.int (nI 0))) u := by rw [← hQe]; exact fun u h1 h2  => ⟨rfl, h1, h2⟩
  clear hQe
  have hm : mdf [] v v := mdf.rf
  show ST G mi_PG_isOnWire 0 [(0, .ref 61), (1, .int x), (2, .int y), (3, .int z)] [] v 0 0 Q
  refine ST.lift (fun _ _ k => T_iload_n d_PG_isOnWire_0 rfl k) ?_
  refine S_static (as := [.int x]) (rest := []) d_PG_isOnWire_1 rfl (jw_PG_isSession.jo (by decide)) lm_PG_133 jt_PG_isSession rfl (Nat.le_of_ble_eq_true rfl) (by decide) (by decide) (c_PG_isSession_neg G v x hx_s) (fun r v' hq => ?_)
  rw [hq.1, hq.2]
  clear hq r v'
  show ST G mi_PG_isOnWire 4 [(0, .ref 61), (1, .int x), (2, .int y), (3, .int z)] [.int (nI 0)] v 0 0 _
  refine S_if_eqN d_PG_isOnWire_4 rfl (by omega) (fun _ => ?_) (fun c => by first | exact absurd c (by omega) | exact c.elim | exact absurd c (by decide) | exact absurd (by assumption) c | exact absurd c (by assumption) | exact absurd c (Int32.not_le.mpr (by assumption)))
  refine ST.lift (fun _ _ k => T_iconst (v := nI 0) d_PG_isOnWire_41 (by decide) k) ?_
  refine S_topi (y := nI 0) (congrArg nI (by omega)) ?_
  exact S_ret d_PG_isOnWire_42 rfl (nar_z (by omega)) (by decide) (by decide) (hQ _ hv hm)
set_option maxRecDepth 100000 in
set_option maxHeartbeats 4000000 in
theorem c_PG_tamper_sneg (G : GX) (v : Nat → Int32) (x : Int32) (y : Int32) (z : Int32) (mask : Int32) (hx_s : x < 0) (hv : okv v) : CS G mi_PG_tamper [.ref 61, .int x, .int y, .int z, .int mask] v (fun r v' => r = some (.int (nI 0)) ∧ okv v' ∧ mdf [] v v') := by
  refine CS.of (by decide) (Nat.le_of_ble_eq_true rfl) ?_
  generalize hQe : (fun (r : Option Value) (v' : Nat → Int32) => r = some (.int (nI 0)) ∧ okv v' ∧ mdf [] v v') = Q
  have hQ : ∀ u, okv u → mdf [] v u → Q (some (.int (nI 0))) u := by rw [← hQe]; exact fun u h1 h2  => ⟨rfl, h1, h2⟩
  clear hQe
  have hm : mdf [] v v := mdf.rf
  show ST G mi_PG_tamper 0 [(0, .ref 61), (1, .int x), (2, .int y), (3, .int z), (4, .int mask)] [] v 0 0 Q
  refine ST.lift (fun _ _ k => T_aload_n (v := .ref 61) d_PG_tamper_0 rfl (Or.inr ⟨_, rfl⟩) k) ?_
  refine ST.lift (fun _ _ k => T_iload_n d_PG_tamper_1 rfl k) ?_
  refine ST.lift (fun _ _ k => T_iload_n d_PG_tamper_2 rfl k) ?_
  refine ST.lift (fun _ _ k => T_iload_n d_PG_tamper_3 rfl k) ?_
  refine S_virtual (as := [.int x, .int y, .int z]) (rest := []) (b := 61) d_PG_tamper_4 rfl (jw_PG_isOnWire.jo (by decide)) lm_PG_154 ji_PG_isOnWire js_PG_isOnWire (w61 _) rfl rfl rfl (Nat.le_of_ble_eq_true rfl) (by decide) (by decide) (c_PG_isOnWire_sneg G v x y z hx_s hv) (fun r u1 hq => ?_)
  obtain ⟨hr, hv2, hm3⟩ := hq
  rw [hr]
  clear hr r
  have hm4 := hm.go hm3 (by intro i hi; simp only [List.mem_cons, List.not_mem_nil, or_false] at hi ⊢ <;> omega)
  show ST G mi_PG_tamper 7 [(0, .ref 61), (1, .int x), (2, .int y), (3, .int z), (4, .int mask)] [.int (nI 0)] u1 0 0 _
  refine S_if_neN d_PG_tamper_7 rfl (by omega) (fun c => by first | exact absurd c (by omega) | exact c.elim | exact absurd c (by decide) | exact absurd (by assumption) c | exact absurd c (by assumption) | exact absurd c (Int32.not_le.mpr (by assumption))) (fun _ => ?_)
  refine ST.lift (fun _ _ k => T_iconst (v := nI 0) d_PG_tamper_10 (by decide) k) ?_
  refine S_topi (y := nI 0) (congrArg nI (by omega)) ?_
  exact S_ret d_PG_tamper_11 rfl (nar_z (by omega)) (by decide) (by decide) (hQ _ hv2 hm4)
set_option maxRecDepth 100000 in
set_option maxHeartbeats 4000000 in
theorem c_PG_isOnWire_sbig (G : GX) (v : Nat → Int32) (x : Int32) (y : Int32) (z : Int32) (h0_s : ¬ x < 0) (hx_s : nI 4 ≤ x) (hv : okv v) : CS G mi_PG_isOnWire [.ref 61, .int x, .int y, .int z] v (fun r v' => r = some (.int (nI 0)) ∧ okv v' ∧ mdf [] v v') := by
  refine CS.of (by decide) (Nat.le_of_ble_eq_true rfl) ?_
  generalize hQe : (fun (r : Option Value) (v' : Nat → Int32) => r = some (.int (nI 0)) ∧ okv v' ∧ mdf [] v v') = Q
  have hQ : ∀ u, okv u → mdf [] v u → Q (some (.int (nI 0))) u := by rw [← hQe]; exact fun u h1 h2  => ⟨rfl, h1, h2⟩
  clear hQe
  have hm : mdf [] v v := mdf.rf
  show ST G mi_PG_isOnWire 0 [(0, .ref 61), (1, .int x), (2, .int y), (3, .int z)] [] v 0 0 Q
  refine ST.lift (fun _ _ k => T_iload_n d_PG_isOnWire_0 rfl k) ?_
  refine S_static (as := [.int x]) (rest := []) d_PG_isOnWire_1 rfl (jw_PG_isSession.jo (by decide)) lm_PG_133 jt_PG_isSession rfl (Nat.le_of_ble_eq_true rfl) (by decide) (by decide) (c_PG_isSession_big G v x h0_s hx_s) (fun r v' hq => ?_)
  rw [hq.1, hq.2]
  clear hq r v'
  show ST G mi_PG_isOnWire 4 [(0, .ref 61), (1, .int x), (2, .int y), (3, .int z)] [.int (nI 0)] v 0 0 _
  refine S_if_eqN d_PG_isOnWire_4 rfl (by omega) (fun _ => ?_) (fun c => by first | exact absurd c (by omega) | exact c.elim | exact absurd c (by decide) | exact absurd (by assumption) c | exact absurd c (by assumption) | exact absurd c (Int32.not_le.mpr (by assumption)))
  refine ST.lift (fun _ _ k => T_iconst (v := nI 0) d_PG_isOnWire_41 (by decide) k) ?_
  refine S_topi (y := nI 0) (congrArg nI (by omega)) ?_
  exact S_ret d_PG_isOnWire_42 rfl (nar_z (by omega)) (by decide) (by decide) (hQ _ hv hm)
set_option maxRecDepth 100000 in
set_option maxHeartbeats 4000000 in
theorem c_PG_tamper_sbig (G : GX) (v : Nat → Int32) (x : Int32) (y : Int32) (z : Int32) (mask : Int32) (h0_s : ¬ x < 0) (hx_s : nI 4 ≤ x) (hv : okv v) : CS G mi_PG_tamper [.ref 61, .int x, .int y, .int z, .int mask] v (fun r v' => r = some (.int (nI 0)) ∧ okv v' ∧ mdf [] v v') := by
  refine CS.of (by decide) (Nat.le_of_ble_eq_true rfl) ?_
  generalize hQe : (fun (r : Option Value) (v' : Nat → Int32) => r = some (.int (nI 0)) ∧ okv v' ∧ mdf [] v v') = Q
  have hQ : ∀ u, okv u → mdf [] v u → Q (some (.int (nI 0))) u := by rw [← hQe]; exact fun u h1 h2  => ⟨rfl, h1, h2⟩
  clear hQe
  have hm : mdf [] v v := mdf.rf
  show ST G mi_PG_tamper 0 [(0, .ref 61), (1, .int x), (2, .int y), (3, .int z), (4, .int mask)] [] v 0 0 Q
  refine ST.lift (fun _ _ k => T_aload_n (v := .ref 61) d_PG_tamper_0 rfl (Or.inr ⟨_, rfl⟩) k) ?_
  refine ST.lift (fun _ _ k => T_iload_n d_PG_tamper_1 rfl k) ?_
  refine ST.lift (fun _ _ k => T_iload_n d_PG_tamper_2 rfl k) ?_
  refine ST.lift (fun _ _ k => T_iload_n d_PG_tamper_3 rfl k) ?_
  refine S_virtual (as := [.int x, .int y, .int z]) (rest := []) (b := 61) d_PG_tamper_4 rfl (jw_PG_isOnWire.jo (by decide)) lm_PG_154 ji_PG_isOnWire js_PG_isOnWire (w61 _) rfl rfl rfl (Nat.le_of_ble_eq_true rfl) (by decide) (by decide) (c_PG_isOnWire_sbig G v x y z h0_s hx_s hv) (fun r u1 hq => ?_)
  obtain ⟨hr, hv2, hm3⟩ := hq
  rw [hr]
  clear hr r
  have hm4 := hm.go hm3 (by intro i hi; simp only [List.mem_cons, List.not_mem_nil, or_false] at hi ⊢ <;> omega)
  show ST G mi_PG_tamper 7 [(0, .ref 61), (1, .int x), (2, .int y), (3, .int z), (4, .int mask)] [.int (nI 0)] u1 0 0 _
  refine S_if_neN d_PG_tamper_7 rfl (by omega) (fun c => by first | exact absurd c (by omega) | exact c.elim | exact absurd c (by decide) | exact absurd (by assumption) c | exact absurd c (by assumption) | exact absurd c (Int32.not_le.mpr (by assumption))) (fun _ => ?_)
  refine ST.lift (fun _ _ k => T_iconst (v := nI 0) d_PG_tamper_10 (by decide) k) ?_
  refine S_topi (y := nI 0) (congrArg nI (by omega)) ?_
  exact S_ret d_PG_tamper_11 rfl (nar_z (by omega)) (by decide) (by decide) (hQ _ hv2 hm4)
set_option maxRecDepth 100000 in
set_option maxHeartbeats 4000000 in
theorem c_PG_isOnWire_0_mlt (G : GX) (v : Nat → Int32) (y : Int32) (z : Int32) (hy_m : y < nI 1) (hv : okv v) : CS G mi_PG_isOnWire [.ref 61, .int (nI 0), .int y, .int z] v (fun r v' => r = some (.int (nI 0)) ∧ okv v' ∧ mdf [] v v') := by
  refine CS.of (by decide) (Nat.le_of_ble_eq_true rfl) ?_
  generalize hQe : (fun (r : Option Value) (v' : Nat → Int32) => r = some (.int (nI 0)) ∧ okv v' ∧ mdf [] v v') = Q
  have hQ : ∀ u, okv u → mdf [] v u → Q (some (.int (nI 0))) u := by rw [← hQe]; exact fun u h1 h2  => ⟨rfl, h1, h2⟩
  clear hQe
  have hm : mdf [] v v := mdf.rf
  show ST G mi_PG_isOnWire 0 [(0, .ref 61), (1, .int (nI 0)), (2, .int y), (3, .int z)] [] v 0 0 Q
  refine ST.lift (fun _ _ k => T_iload_n d_PG_isOnWire_0 rfl k) ?_
  refine S_static (as := [.int (nI 0)]) (rest := []) d_PG_isOnWire_1 rfl (jw_PG_isSession.jo (by decide)) lm_PG_133 jt_PG_isSession rfl (Nat.le_of_ble_eq_true rfl) (by decide) (by decide) (c_PG_isSession G v 0 (by omega)) (fun r v' hq => ?_)
  rw [hq.1, hq.2]
  clear hq r v'
  show ST G mi_PG_isOnWire 4 [(0, .ref 61), (1, .int (nI 0)), (2, .int y), (3, .int z)] [.int (nI 1)] v 0 0 _
  refine S_if_eqN d_PG_isOnWire_4 rfl (by omega) (fun c => by first | exact absurd c (by omega) | exact c.elim | exact absurd c (by decide) | exact absurd (by assumption) c | exact absurd c (by assumption) | exact absurd c (Int32.not_le.mpr (by assumption))) (fun _ => ?_)
  refine ST.lift (fun _ _ k => T_iload_n d_PG_isOnWire_7 rfl k) ?_
  refine ST.lift (fun _ _ k => T_iconst (v := nI 1) d_PG_isOnWire_8 (by decide) k) ?_
  refine S_icmp_lt d_PG_isOnWire_9 rfl (fun _ => ?_) (fun c => by first | exact absurd c (by omega) | exact c.elim | exact absurd c (by decide) | exact absurd (by assumption) c | exact absurd c (by assumption) | exact absurd c (Int32.not_le.mpr (by assumption)))
  refine ST.lift (fun _ _ k => T_iconst (v := nI 0) d_PG_isOnWire_41 (by decide) k) ?_
  refine S_topi (y := nI 0) (congrArg nI (by omega)) ?_
  exact S_ret d_PG_isOnWire_42 rfl (nar_z (by omega)) (by decide) (by decide) (hQ _ hv hm)
set_option maxRecDepth 100000 in
set_option maxHeartbeats 4000000 in
theorem c_PG_tamper_0_mlt (G : GX) (v : Nat → Int32) (y : Int32) (z : Int32) (mask : Int32) (hy_m : y < nI 1) (hv : okv v) : CS G mi_PG_tamper [.ref 61, .int (nI 0), .int y, .int z, .int mask] v (fun r v' => r = some (.int (nI 0)) ∧ okv v' ∧ mdf [] v v') := by
  refine CS.of (by decide) (Nat.le_of_ble_eq_true rfl) ?_
  generalize hQe : (fun (r : Option Value) (v' : Nat → Int32) => r = some (.int (nI 0)) ∧ okv v' ∧ mdf [] v v') = Q
  have hQ : ∀ u, okv u → mdf [] v u → Q (some (.int (nI 0))) u := by rw [← hQe]; exact fun u h1 h2  => ⟨rfl, h1, h2⟩
  clear hQe
  have hm : mdf [] v v := mdf.rf
  show ST G mi_PG_tamper 0 [(0, .ref 61), (1, .int (nI 0)), (2, .int y), (3, .int z), (4, .int mask)] [] v 0 0 Q
  refine ST.lift (fun _ _ k => T_aload_n (v := .ref 61) d_PG_tamper_0 rfl (Or.inr ⟨_, rfl⟩) k) ?_
  refine ST.lift (fun _ _ k => T_iload_n d_PG_tamper_1 rfl k) ?_
  refine ST.lift (fun _ _ k => T_iload_n d_PG_tamper_2 rfl k) ?_
  refine ST.lift (fun _ _ k => T_iload_n d_PG_tamper_3 rfl k) ?_
  refine S_virtual (as := [.int (nI 0), .int y, .int z]) (rest := []) (b := 61) d_PG_tamper_4 rfl (jw_PG_isOnWire.jo (by decide)) lm_PG_154 ji_PG_isOnWire js_PG_isOnWire (w61 _) rfl rfl rfl (Nat.le_of_ble_eq_true rfl) (by decide) (by decide) (c_PG_isOnWire_0_mlt G v y z hy_m hv) (fun r u1 hq => ?_)
  obtain ⟨hr, hv2, hm3⟩ := hq
  rw [hr]
  clear hr r
  have hm4 := hm.go hm3 (by intro i hi; simp only [List.mem_cons, List.not_mem_nil, or_false] at hi ⊢ <;> omega)
  show ST G mi_PG_tamper 7 [(0, .ref 61), (1, .int (nI 0)), (2, .int y), (3, .int z), (4, .int mask)] [.int (nI 0)] u1 0 0 _
  refine S_if_neN d_PG_tamper_7 rfl (by omega) (fun c => by first | exact absurd c (by omega) | exact c.elim | exact absurd c (by decide) | exact absurd (by assumption) c | exact absurd c (by assumption) | exact absurd c (Int32.not_le.mpr (by assumption))) (fun _ => ?_)
  refine ST.lift (fun _ _ k => T_iconst (v := nI 0) d_PG_tamper_10 (by decide) k) ?_
  refine S_topi (y := nI 0) (congrArg nI (by omega)) ?_
  exact S_ret d_PG_tamper_11 rfl (nar_z (by omega)) (by decide) (by decide) (hQ _ hv2 hm4)
set_option maxRecDepth 100000 in
set_option maxHeartbeats 4000000 in
theorem c_PG_isOnWire_0_mgt (G : GX) (v : Nat → Int32) (y : Int32) (z : Int32) (h0_m : ¬ y < nI 1) (hy_m : nI 3 < y) (hv : okv v) : CS G mi_PG_isOnWire [.ref 61, .int (nI 0), .int y, .int z] v (fun r v' => r = some (.int (nI 0)) ∧ okv v' ∧ mdf [] v v') := by
  refine CS.of (by decide) (Nat.le_of_ble_eq_true rfl) ?_
  generalize hQe : (fun (r : Option Value) (v' : Nat → Int32) => r = some (.int (nI 0)) ∧ okv v' ∧ mdf [] v v') = Q
  have hQ : ∀ u, okv u → mdf [] v u → Q (some (.int (nI 0))) u := by rw [← hQe]; exact fun u h1 h2  => ⟨rfl, h1, h2⟩
  clear hQe
  have hm : mdf [] v v := mdf.rf
  show ST G mi_PG_isOnWire 0 [(0, .ref 61), (1, .int (nI 0)), (2, .int y), (3, .int z)] [] v 0 0 Q
  refine ST.lift (fun _ _ k => T_iload_n d_PG_isOnWire_0 rfl k) ?_
  refine S_static (as := [.int (nI 0)]) (rest := []) d_PG_isOnWire_1 rfl (jw_PG_isSession.jo (by decide)) lm_PG_133 jt_PG_isSession rfl (Nat.le_of_ble_eq_true rfl) (by decide) (by decide) (c_PG_isSession G v 0 (by omega)) (fun r v' hq => ?_)
  rw [hq.1, hq.2]
  clear hq r v'
  show ST G mi_PG_isOnWire 4 [(0, .ref 61), (1, .int (nI 0)), (2, .int y), (3, .int z)] [.int (nI 1)] v 0 0 _
  refine S_if_eqN d_PG_isOnWire_4 rfl (by omega) (fun c => by first | exact absurd c (by omega) | exact c.elim | exact absurd c (by decide) | exact absurd (by assumption) c | exact absurd c (by assumption) | exact absurd c (Int32.not_le.mpr (by assumption))) (fun _ => ?_)
  refine ST.lift (fun _ _ k => T_iload_n d_PG_isOnWire_7 rfl k) ?_
  refine ST.lift (fun _ _ k => T_iconst (v := nI 1) d_PG_isOnWire_8 (by decide) k) ?_
  refine S_icmp_lt d_PG_isOnWire_9 rfl (fun c => by first | exact absurd c (by omega) | exact c.elim | exact absurd c (by decide) | exact absurd (by assumption) c | exact absurd c (by assumption) | exact absurd c (Int32.not_le.mpr (by assumption))) (fun _ => ?_)
  refine ST.lift (fun _ _ k => T_iload_n d_PG_isOnWire_12 rfl k) ?_
  refine ST.lift (fun _ _ k => T_iconst (v := nI 3) d_PG_isOnWire_13 (by decide) k) ?_
  refine S_icmp_gt d_PG_isOnWire_14 rfl (fun _ => ?_) (fun c => by first | exact absurd c (by omega) | exact c.elim | exact absurd c (by decide) | exact absurd (by assumption) c | exact absurd c (by assumption) | exact absurd c (Int32.not_le.mpr (by assumption)))
  refine ST.lift (fun _ _ k => T_iconst (v := nI 0) d_PG_isOnWire_41 (by decide) k) ?_
  refine S_topi (y := nI 0) (congrArg nI (by omega)) ?_
  exact S_ret d_PG_isOnWire_42 rfl (nar_z (by omega)) (by decide) (by decide) (hQ _ hv hm)
set_option maxRecDepth 100000 in
set_option maxHeartbeats 4000000 in
theorem c_PG_tamper_0_mgt (G : GX) (v : Nat → Int32) (y : Int32) (z : Int32) (mask : Int32) (h0_m : ¬ y < nI 1) (hy_m : nI 3 < y) (hv : okv v) : CS G mi_PG_tamper [.ref 61, .int (nI 0), .int y, .int z, .int mask] v (fun r v' => r = some (.int (nI 0)) ∧ okv v' ∧ mdf [] v v') := by
  refine CS.of (by decide) (Nat.le_of_ble_eq_true rfl) ?_
  generalize hQe : (fun (r : Option Value) (v' : Nat → Int32) => r = some (.int (nI 0)) ∧ okv v' ∧ mdf [] v v') = Q
  have hQ : ∀ u, okv u → mdf [] v u → Q (some (.int (nI 0))) u := by rw [← hQe]; exact fun u h1 h2  => ⟨rfl, h1, h2⟩
  clear hQe
  have hm : mdf [] v v := mdf.rf
  show ST G mi_PG_tamper 0 [(0, .ref 61), (1, .int (nI 0)), (2, .int y), (3, .int z), (4, .int mask)] [] v 0 0 Q
  refine ST.lift (fun _ _ k => T_aload_n (v := .ref 61) d_PG_tamper_0 rfl (Or.inr ⟨_, rfl⟩) k) ?_
  refine ST.lift (fun _ _ k => T_iload_n d_PG_tamper_1 rfl k) ?_
  refine ST.lift (fun _ _ k => T_iload_n d_PG_tamper_2 rfl k) ?_
  refine ST.lift (fun _ _ k => T_iload_n d_PG_tamper_3 rfl k) ?_
  refine S_virtual (as := [.int (nI 0), .int y, .int z]) (rest := []) (b := 61) d_PG_tamper_4 rfl (jw_PG_isOnWire.jo (by decide)) lm_PG_154 ji_PG_isOnWire js_PG_isOnWire (w61 _) rfl rfl rfl (Nat.le_of_ble_eq_true rfl) (by decide) (by decide) (c_PG_isOnWire_0_mgt G v y z h0_m hy_m hv) (fun r u1 hq => ?_)
  obtain ⟨hr, hv2, hm3⟩ := hq
  rw [hr]
  clear hr r
  have hm4 := hm.go hm3 (by intro i hi; simp only [List.mem_cons, List.not_mem_nil, or_false] at hi ⊢ <;> omega)
  show ST G mi_PG_tamper 7 [(0, .ref 61), (1, .int (nI 0)), (2, .int y), (3, .int z), (4, .int mask)] [.int (nI 0)] u1 0 0 _
  refine S_if_neN d_PG_tamper_7 rfl (by omega) (fun c => by first | exact absurd c (by omega) | exact c.elim | exact absurd c (by decide) | exact absurd (by assumption) c | exact absurd c (by assumption) | exact absurd c (Int32.not_le.mpr (by assumption))) (fun _ => ?_)
  refine ST.lift (fun _ _ k => T_iconst (v := nI 0) d_PG_tamper_10 (by decide) k) ?_
  refine S_topi (y := nI 0) (congrArg nI (by omega)) ?_
  exact S_ret d_PG_tamper_11 rfl (nar_z (by omega)) (by decide) (by decide) (hQ _ hv2 hm4)
set_option maxRecDepth 100000 in
set_option maxHeartbeats 4000000 in
theorem c_PG_isOnWire_0_1_neg (G : GX) (v : Nat → Int32) (z : Int32) (hz_n : z < 0) (hv : okv v) : CS G mi_PG_isOnWire [.ref 61, .int (nI 0), .int (nI 1), .int z] v (fun r v' => r = some (.int (nI 0)) ∧ okv v' ∧ mdf [] v v') := by
  refine CS.of (by decide) (Nat.le_of_ble_eq_true rfl) ?_
  generalize hQe : (fun (r : Option Value) (v' : Nat → Int32) => r = some (.int (nI 0)) ∧ okv v' ∧ mdf [] v v') = Q
  have hQ : ∀ u, okv u → mdf [] v u → Q (some (.int (nI 0))) u := by rw [← hQe]; exact fun u h1 h2  => ⟨rfl, h1, h2⟩
  clear hQe
  have hm : mdf [] v v := mdf.rf
  show ST G mi_PG_isOnWire 0 [(0, .ref 61), (1, .int (nI 0)), (2, .int (nI 1)), (3, .int z)] [] v 0 0 Q
  refine ST.lift (fun _ _ k => T_iload_n d_PG_isOnWire_0 rfl k) ?_
  refine S_static (as := [.int (nI 0)]) (rest := []) d_PG_isOnWire_1 rfl (jw_PG_isSession.jo (by decide)) lm_PG_133 jt_PG_isSession rfl (Nat.le_of_ble_eq_true rfl) (by decide) (by decide) (c_PG_isSession G v 0 (by omega)) (fun r v' hq => ?_)
  rw [hq.1, hq.2]
  clear hq r v'
  show ST G mi_PG_isOnWire 4 [(0, .ref 61), (1, .int (nI 0)), (2, .int (nI 1)), (3, .int z)] [.int (nI 1)] v 0 0 _
  refine S_if_eqN d_PG_isOnWire_4 rfl (by omega) (fun c => by first | exact absurd c (by omega) | exact c.elim | exact absurd c (by decide) | exact absurd (by assumption) c | exact absurd c (by assumption) | exact absurd c (Int32.not_le.mpr (by assumption))) (fun _ => ?_)
  refine ST.lift (fun _ _ k => T_iload_n d_PG_isOnWire_7 rfl k) ?_
  refine ST.lift (fun _ _ k => T_iconst (v := nI 1) d_PG_isOnWire_8 (by decide) k) ?_
  refine S_icmp_ltN d_PG_isOnWire_9 rfl (by omega) (by omega) (fun c => by first | exact absurd c (by omega) | exact c.elim | exact absurd c (by decide) | exact absurd (by assumption) c | exact absurd c (by assumption) | exact absurd c (Int32.not_le.mpr (by assumption))) (fun _ => ?_)
  refine ST.lift (fun _ _ k => T_iload_n d_PG_isOnWire_12 rfl k) ?_
  refine ST.lift (fun _ _ k => T_iconst (v := nI 3) d_PG_isOnWire_13 (by decide) k) ?_
  refine S_icmp_gtN d_PG_isOnWire_14 rfl (by omega) (by omega) (fun c => by first | exact absurd c (by omega) | exact c.elim | exact absurd c (by decide) | exact absurd (by assumption) c | exact absurd c (by assumption) | exact absurd c (Int32.not_le.mpr (by assumption))) (fun _ => ?_)
  refine ST.lift (fun _ _ k => T_aload_n (v := .ref 61) d_PG_isOnWire_17 rfl (Or.inr ⟨_, rfl⟩) k) ?_
  refine S_getfield d_PG_isOnWire_18 fg_PG_34 (w61 _) rfl ?_
  refine ST.lift (fun _ _ k => T_iload_n d_PG_isOnWire_21 rfl k) ?_
  refine S_aaload (C0 := "PasswordGate$Session") d_PG_isOnWire_22 (by decide) (w264 _) rfl (vp_in_nI (by omega) (by omega)) ?_
  refine S_getfield d_PG_isOnWire_23 fg_PG_158 (w265 _) rfl ?_
  refine ST.lift (fun _ _ k => T_iload_n d_PG_isOnWire_26 rfl k) ?_
  refine ST.lift (fun _ _ k => T_iconst (v := nI 1) d_PG_isOnWire_27 (by decide) k) ?_
  refine S_isubN d_PG_isOnWire_28 (by omega) ?_
  refine S_topi (y := nI 0) (by decide) ?_
  refine S_aaload (C0 := "PasswordGate$Bytes") d_PG_isOnWire_29 (by decide) (w266 _) rfl (vp_in_nI (by omega) (by omega)) ?_
  refine ST.lift (fun _ _ k => T_iload_n d_PG_isOnWire_30 rfl k) ?_
  refine S_virtual (as := [.int z]) (rest := []) (b := 279) d_PG_isOnWire_31 rfl (jw_By_has.jo (by decide)) lm_PG_119 ji_By_has js_By_has (w279 _) rfl rfl rfl (Nat.le_of_ble_eq_true rfl) (by decide) (by decide) (c_By_has_neg G v 279 280 96 28 ⟨w279, a280, by decide, u279_1, by decide, by decide⟩ z hz_n hv) (fun r u1 hq => ?_)
  obtain ⟨hr, hv2, hm3⟩ := hq
  rw [hr]
  clear hr r
  have hm4 := hm.go hm3 (by intro i hi; simp only [List.mem_cons, List.not_mem_nil, or_false] at hi ⊢ <;> omega)
  show ST G mi_PG_isOnWire 34 [(0, .ref 61), (1, .int (nI 0)), (2, .int (nI 1)), (3, .int z)] [.int (nI 0)] u1 0 0 _
  refine S_if_eqN d_PG_isOnWire_34 rfl (by omega) (fun _ => ?_) (fun c => by first | exact absurd c (by omega) | exact c.elim | exact absurd c (by decide) | exact absurd (by assumption) c | exact absurd c (by assumption) | exact absurd c (Int32.not_le.mpr (by assumption)))
  refine ST.lift (fun _ _ k => T_iconst (v := nI 0) d_PG_isOnWire_41 (by decide) k) ?_
  refine S_topi (y := nI 0) (congrArg nI (by omega)) ?_
  exact S_ret d_PG_isOnWire_42 rfl (nar_z (by omega)) (by decide) (by decide) (hQ _ hv2 hm4)
set_option maxRecDepth 100000 in
set_option maxHeartbeats 4000000 in
theorem c_PG_tamper_0_1_neg (G : GX) (v : Nat → Int32) (z : Int32) (mask : Int32) (hz_n : z < 0) (hv : okv v) : CS G mi_PG_tamper [.ref 61, .int (nI 0), .int (nI 1), .int z, .int mask] v (fun r v' => r = some (.int (nI 0)) ∧ okv v' ∧ mdf [] v v') := by
  refine CS.of (by decide) (Nat.le_of_ble_eq_true rfl) ?_
  generalize hQe : (fun (r : Option Value) (v' : Nat → Int32) => r = some (.int (nI 0)) ∧ okv v' ∧ mdf [] v v') = Q
  have hQ : ∀ u, okv u → mdf [] v u → Q (some (.int (nI 0))) u := by rw [← hQe]; exact fun u h1 h2  => ⟨rfl, h1, h2⟩
  clear hQe
  have hm : mdf [] v v := mdf.rf
  show ST G mi_PG_tamper 0 [(0, .ref 61), (1, .int (nI 0)), (2, .int (nI 1)), (3, .int z), (4, .int mask)] [] v 0 0 Q
  refine ST.lift (fun _ _ k => T_aload_n (v := .ref 61) d_PG_tamper_0 rfl (Or.inr ⟨_, rfl⟩) k) ?_
  refine ST.lift (fun _ _ k => T_iload_n d_PG_tamper_1 rfl k) ?_
  refine ST.lift (fun _ _ k => T_iload_n d_PG_tamper_2 rfl k) ?_
  refine ST.lift (fun _ _ k => T_iload_n d_PG_tamper_3 rfl k) ?_
  refine S_virtual (as := [.int (nI 0), .int (nI 1), .int z]) (rest := []) (b := 61) d_PG_tamper_4 rfl (jw_PG_isOnWire.jo (by decide)) lm_PG_154 ji_PG_isOnWire js_PG_isOnWire (w61 _) rfl rfl rfl (Nat.le_of_ble_eq_true rfl) (by decide) (by decide) (c_PG_isOnWire_0_1_neg G v z hz_n hv) (fun r u1 hq => ?_)
  obtain ⟨hr, hv2, hm3⟩ := hq
  rw [hr]
  clear hr r
  have hm4 := hm.go hm3 (by intro i hi; simp only [List.mem_cons, List.not_mem_nil, or_false] at hi ⊢ <;> omega)
  show ST G mi_PG_tamper 7 [(0, .ref 61), (1, .int (nI 0)), (2, .int (nI 1)), (3, .int z), (4, .int mask)] [.int (nI 0)] u1 0 0 _
  refine S_if_neN d_PG_tamper_7 rfl (by omega) (fun c => by first | exact absurd c (by omega) | exact c.elim | exact absurd c (by decide) | exact absurd (by assumption) c | exact absurd c (by assumption) | exact absurd c (Int32.not_le.mpr (by assumption))) (fun _ => ?_)
  refine ST.lift (fun _ _ k => T_iconst (v := nI 0) d_PG_tamper_10 (by decide) k) ?_
  refine S_topi (y := nI 0) (congrArg nI (by omega)) ?_
  exact S_ret d_PG_tamper_11 rfl (nar_z (by omega)) (by decide) (by decide) (hQ _ hv2 hm4)
set_option maxRecDepth 100000 in
set_option maxHeartbeats 4000000 in
theorem c_PG_isOnWire_0_1_out (G : GX) (v : Nat → Int32) (i : Nat) (b_i : i < 2147483648) (k : Nat) (e28 : v 28 = nI k) (hk : k ≤ i ∧ k ≤ 96) (hv : okv v) : CS G mi_PG_isOnWire [.ref 61, .int (nI 0), .int (nI 1), .int (nI i)] v (fun r v' => r = some (.int (nI 0)) ∧ okv v' ∧ mdf [] v v' ∧ v' 28 = nI k) := by
  refine CS.of (by decide) (Nat.le_of_ble_eq_true rfl) ?_
  generalize hQe : (fun (r : Option Value) (v' : Nat → Int32) => r = some (.int (nI 0)) ∧ okv v' ∧ mdf [] v v' ∧ v' 28 = nI k) = Q
  have hQ : ∀ u, okv u → mdf [] v u → u 28 = nI k → Q (some (.int (nI 0))) u := by rw [← hQe]; exact fun u h1 h2 f0 => ⟨rfl, h1, h2, f0⟩
  clear hQe
  have hm : mdf [] v v := mdf.rf
  show ST G mi_PG_isOnWire 0 [(0, .ref 61), (1, .int (nI 0)), (2, .int (nI 1)), (3, .int (nI i))] [] v 0 0 Q
  refine ST.lift (fun _ _ k => T_iload_n d_PG_isOnWire_0 rfl k) ?_
  refine S_static (as := [.int (nI 0)]) (rest := []) d_PG_isOnWire_1 rfl (jw_PG_isSession.jo (by decide)) lm_PG_133 jt_PG_isSession rfl (Nat.le_of_ble_eq_true rfl) (by decide) (by decide) (c_PG_isSession G v 0 (by omega)) (fun r v' hq => ?_)
  rw [hq.1, hq.2]
  clear hq r v'
  show ST G mi_PG_isOnWire 4 [(0, .ref 61), (1, .int (nI 0)), (2, .int (nI 1)), (3, .int (nI i))] [.int (nI 1)] v 0 0 _
  refine S_if_eqN d_PG_isOnWire_4 rfl (by omega) (fun c => by first | exact absurd c (by omega) | exact c.elim | exact absurd c (by decide) | exact absurd (by assumption) c | exact absurd c (by assumption) | exact absurd c (Int32.not_le.mpr (by assumption))) (fun _ => ?_)
  refine ST.lift (fun _ _ k => T_iload_n d_PG_isOnWire_7 rfl k) ?_
  refine ST.lift (fun _ _ k => T_iconst (v := nI 1) d_PG_isOnWire_8 (by decide) k) ?_
  refine S_icmp_ltN d_PG_isOnWire_9 rfl (by omega) (by omega) (fun c => by first | exact absurd c (by omega) | exact c.elim | exact absurd c (by decide) | exact absurd (by assumption) c | exact absurd c (by assumption) | exact absurd c (Int32.not_le.mpr (by assumption))) (fun _ => ?_)
  refine ST.lift (fun _ _ k => T_iload_n d_PG_isOnWire_12 rfl k) ?_
  refine ST.lift (fun _ _ k => T_iconst (v := nI 3) d_PG_isOnWire_13 (by decide) k) ?_
  refine S_icmp_gtN d_PG_isOnWire_14 rfl (by omega) (by omega) (fun c => by first | exact absurd c (by omega) | exact c.elim | exact absurd c (by decide) | exact absurd (by assumption) c | exact absurd c (by assumption) | exact absurd c (Int32.not_le.mpr (by assumption))) (fun _ => ?_)
  refine ST.lift (fun _ _ k => T_aload_n (v := .ref 61) d_PG_isOnWire_17 rfl (Or.inr ⟨_, rfl⟩) k) ?_
  refine S_getfield d_PG_isOnWire_18 fg_PG_34 (w61 _) rfl ?_
  refine ST.lift (fun _ _ k => T_iload_n d_PG_isOnWire_21 rfl k) ?_
  refine S_aaload (C0 := "PasswordGate$Session") d_PG_isOnWire_22 (by decide) (w264 _) rfl (vp_in_nI (by omega) (by omega)) ?_
  refine S_getfield d_PG_isOnWire_23 fg_PG_158 (w265 _) rfl ?_
  refine ST.lift (fun _ _ k => T_iload_n d_PG_isOnWire_26 rfl k) ?_
  refine ST.lift (fun _ _ k => T_iconst (v := nI 1) d_PG_isOnWire_27 (by decide) k) ?_
  refine S_isubN d_PG_isOnWire_28 (by omega) ?_
  refine S_topi (y := nI 0) (by decide) ?_
  refine S_aaload (C0 := "PasswordGate$Bytes") d_PG_isOnWire_29 (by decide) (w266 _) rfl (vp_in_nI (by omega) (by omega)) ?_
  refine ST.lift (fun _ _ k => T_iload_n d_PG_isOnWire_30 rfl k) ?_
  refine S_virtual (as := [.int (nI i)]) (rest := []) (b := 279) d_PG_isOnWire_31 rfl (jw_By_has.jo (by decide)) lm_PG_119 ji_By_has js_By_has (w279 _) rfl rfl rfl (Nat.le_of_ble_eq_true rfl) (by decide) (by decide) (c_By_has_out G v 279 280 96 28 ⟨w279, a280, by decide, u279_1, by decide, by decide⟩ i (by omega) k e28 (by omega) hv) (fun r u1 hq => ?_)
  obtain ⟨hr, hv2, hm3, fe0_u1⟩ := hq
  rw [hr]
  clear hr r
  have hm4 := hm.go hm3 (by intro i hi; simp only [List.mem_cons, List.not_mem_nil, or_false] at hi ⊢ <;> omega)
  have e5 : u1 28 = nI k := (hm3 28 (by decide)).trans e28
  show ST G mi_PG_isOnWire 34 [(0, .ref 61), (1, .int (nI 0)), (2, .int (nI 1)), (3, .int (nI i))] [.int (nI 0)] u1 0 0 _
  refine S_if_eqN d_PG_isOnWire_34 rfl (by omega) (fun _ => ?_) (fun c => by first | exact absurd c (by omega) | exact c.elim | exact absurd c (by decide) | exact absurd (by assumption) c | exact absurd c (by assumption) | exact absurd c (Int32.not_le.mpr (by assumption)))
  refine ST.lift (fun _ _ k => T_iconst (v := nI 0) d_PG_isOnWire_41 (by decide) k) ?_
  refine S_topi (y := nI 0) (congrArg nI (by omega)) ?_
  exact S_ret d_PG_isOnWire_42 rfl (nar_z (by omega)) (by decide) (by decide) (hQ _ hv2 hm4 (fe0_u1.trans (congrArg nI (by omega))))
set_option maxRecDepth 100000 in
set_option maxHeartbeats 4000000 in
theorem c_PG_tamper_0_1_out (G : GX) (v : Nat → Int32) (i : Nat) (b_i : i < 2147483648) (mask : Int32) (k : Nat) (e28 : v 28 = nI k) (hk : k ≤ i ∧ k ≤ 96) (hv : okv v) : CS G mi_PG_tamper [.ref 61, .int (nI 0), .int (nI 1), .int (nI i), .int mask] v (fun r v' => r = some (.int (nI 0)) ∧ okv v' ∧ mdf [] v v' ∧ v' 28 = nI k) := by
  refine CS.of (by decide) (Nat.le_of_ble_eq_true rfl) ?_
  generalize hQe : (fun (r : Option Value) (v' : Nat → Int32) => r = some (.int (nI 0)) ∧ okv v' ∧ mdf [] v v' ∧ v' 28 = nI k) = Q
  have hQ : ∀ u, okv u → mdf [] v u → u 28 = nI k → Q (some (.int (nI 0))) u := by rw [← hQe]; exact fun u h1 h2 f0 => ⟨rfl, h1, h2, f0⟩
  clear hQe
  have hm : mdf [] v v := mdf.rf
  show ST G mi_PG_tamper 0 [(0, .ref 61), (1, .int (nI 0)), (2, .int (nI 1)), (3, .int (nI i)), (4, .int mask)] [] v 0 0 Q
  refine ST.lift (fun _ _ k => T_aload_n (v := .ref 61) d_PG_tamper_0 rfl (Or.inr ⟨_, rfl⟩) k) ?_
  refine ST.lift (fun _ _ k => T_iload_n d_PG_tamper_1 rfl k) ?_
  refine ST.lift (fun _ _ k => T_iload_n d_PG_tamper_2 rfl k) ?_
  refine ST.lift (fun _ _ k => T_iload_n d_PG_tamper_3 rfl k) ?_
  refine S_virtual (as := [.int (nI 0), .int (nI 1), .int (nI i)]) (rest := []) (b := 61) d_PG_tamper_4 rfl (jw_PG_isOnWire.jo (by decide)) lm_PG_154 ji_PG_isOnWire js_PG_isOnWire (w61 _) rfl rfl rfl (Nat.le_of_ble_eq_true rfl) (by decide) (by decide) (c_PG_isOnWire_0_1_out G v i (by omega) k e28 (by omega) hv) (fun r u1 hq => ?_)
  obtain ⟨hr, hv2, hm3, fe0_u1⟩ := hq
  rw [hr]
  clear hr r
  have hm4 := hm.go hm3 (by intro i hi; simp only [List.mem_cons, List.not_mem_nil, or_false] at hi ⊢ <;> omega)
  have e5 : u1 28 = nI k := (hm3 28 (by decide)).trans e28
  show ST G mi_PG_tamper 7 [(0, .ref 61), (1, .int (nI 0)), (2, .int (nI 1)), (3, .int (nI i)), (4, .int mask)] [.int (nI 0)] u1 0 0 _
  refine S_if_neN d_PG_tamper_7 rfl (by omega) (fun c => by first | exact absurd c (by omega) | exact c.elim | exact absurd c (by decide) | exact absurd (by assumption) c | exact absurd c (by assumption) | exact absurd c (Int32.not_le.mpr (by assumption))) (fun _ => ?_)
  refine ST.lift (fun _ _ k => T_iconst (v := nI 0) d_PG_tamper_10 (by decide) k) ?_
  refine S_topi (y := nI 0) (congrArg nI (by omega)) ?_
  exact S_ret d_PG_tamper_11 rfl (nar_z (by omega)) (by decide) (by decide) (hQ _ hv2 hm4 (fe0_u1.trans (congrArg nI (by omega))))
set_option maxRecDepth 100000 in
set_option maxHeartbeats 4000000 in
theorem c_PG_isOnWire_0_1_in (G : GX) (v : Nat → Int32) (i : Nat) (b_i : i < 2147483648) (k : Nat) (e28 : v 28 = nI k) (hk : i < k ∧ k ≤ 96) (hv : okv v) : CS G mi_PG_isOnWire [.ref 61, .int (nI 0), .int (nI 1), .int (nI i)] v (fun r v' => r = some (.int (nI 1)) ∧ okv v' ∧ mdf [] v v' ∧ v' 28 = nI k) := by
  refine CS.of (by decide) (Nat.le_of_ble_eq_true rfl) ?_
  generalize hQe : (fun (r : Option Value) (v' : Nat → Int32) => r = some (.int (nI 1)) ∧ okv v' ∧ mdf [] v v' ∧ v' 28 = nI k) = Q
  have hQ : ∀ u, okv u → mdf [] v u → u 28 = nI k → Q (some (.int (nI 1))) u := by rw [← hQe]; exact fun u h1 h2 f0 => ⟨rfl, h1, h2, f0⟩
  clear hQe
  have hm : mdf [] v v := mdf.rf
  show ST G mi_PG_isOnWire 0 [(0, .ref 61), (1, .int (nI 0)), (2, .int (nI 1)), (3, .int (nI i))] [] v 0 0 Q
  refine ST.lift (fun _ _ k => T_iload_n d_PG_isOnWire_0 rfl k) ?_
  refine S_static (as := [.int (nI 0)]) (rest := []) d_PG_isOnWire_1 rfl (jw_PG_isSession.jo (by decide)) lm_PG_133 jt_PG_isSession rfl (Nat.le_of_ble_eq_true rfl) (by decide) (by decide) (c_PG_isSession G v 0 (by omega)) (fun r v' hq => ?_)
  rw [hq.1, hq.2]
  clear hq r v'
  show ST G mi_PG_isOnWire 4 [(0, .ref 61), (1, .int (nI 0)), (2, .int (nI 1)), (3, .int (nI i))] [.int (nI 1)] v 0 0 _
  refine S_if_eqN d_PG_isOnWire_4 rfl (by omega) (fun c => by first | exact absurd c (by omega) | exact c.elim | exact absurd c (by decide) | exact absurd (by assumption) c | exact absurd c (by assumption) | exact absurd c (Int32.not_le.mpr (by assumption))) (fun _ => ?_)
  refine ST.lift (fun _ _ k => T_iload_n d_PG_isOnWire_7 rfl k) ?_
  refine ST.lift (fun _ _ k => T_iconst (v := nI 1) d_PG_isOnWire_8 (by decide) k) ?_
  refine S_icmp_ltN d_PG_isOnWire_9 rfl (by omega) (by omega) (fun c => by first | exact absurd c (by omega) | exact c.elim | exact absurd c (by decide) | exact absurd (by assumption) c | exact absurd c (by assumption) | exact absurd c (Int32.not_le.mpr (by assumption))) (fun _ => ?_)
  refine ST.lift (fun _ _ k => T_iload_n d_PG_isOnWire_12 rfl k) ?_
  refine ST.lift (fun _ _ k => T_iconst (v := nI 3) d_PG_isOnWire_13 (by decide) k) ?_
  refine S_icmp_gtN d_PG_isOnWire_14 rfl (by omega) (by omega) (fun c => by first | exact absurd c (by omega) | exact c.elim | exact absurd c (by decide) | exact absurd (by assumption) c | exact absurd c (by assumption) | exact absurd c (Int32.not_le.mpr (by assumption))) (fun _ => ?_)
  refine ST.lift (fun _ _ k => T_aload_n (v := .ref 61) d_PG_isOnWire_17 rfl (Or.inr ⟨_, rfl⟩) k) ?_
  refine S_getfield d_PG_isOnWire_18 fg_PG_34 (w61 _) rfl ?_
  refine ST.lift (fun _ _ k => T_iload_n d_PG_isOnWire_21 rfl k) ?_
  refine S_aaload (C0 := "PasswordGate$Session") d_PG_isOnWire_22 (by decide) (w264 _) rfl (vp_in_nI (by omega) (by omega)) ?_
  refine S_getfield d_PG_isOnWire_23 fg_PG_158 (w265 _) rfl ?_
  refine ST.lift (fun _ _ k => T_iload_n d_PG_isOnWire_26 rfl k) ?_
  refine ST.lift (fun _ _ k => T_iconst (v := nI 1) d_PG_isOnWire_27 (by decide) k) ?_
  refine S_isubN d_PG_isOnWire_28 (by omega) ?_
  refine S_topi (y := nI 0) (by decide) ?_
  refine S_aaload (C0 := "PasswordGate$Bytes") d_PG_isOnWire_29 (by decide) (w266 _) rfl (vp_in_nI (by omega) (by omega)) ?_
  refine ST.lift (fun _ _ k => T_iload_n d_PG_isOnWire_30 rfl k) ?_
  refine S_virtual (as := [.int (nI i)]) (rest := []) (b := 279) d_PG_isOnWire_31 rfl (jw_By_has.jo (by decide)) lm_PG_119 ji_By_has js_By_has (w279 _) rfl rfl rfl (Nat.le_of_ble_eq_true rfl) (by decide) (by decide) (c_By_has_in G v 279 280 96 28 ⟨w279, a280, by decide, u279_1, by decide, by decide⟩ i (by omega) k e28 (by omega) hv) (fun r u1 hq => ?_)
  obtain ⟨hr, hv2, hm3, fe0_u1⟩ := hq
  rw [hr]
  clear hr r
  have hm4 := hm.go hm3 (by intro i hi; simp only [List.mem_cons, List.not_mem_nil, or_false] at hi ⊢ <;> omega)
  have e5 : u1 28 = nI k := (hm3 28 (by decide)).trans e28
  show ST G mi_PG_isOnWire 34 [(0, .ref 61), (1, .int (nI 0)), (2, .int (nI 1)), (3, .int (nI i))] [.int (nI 1)] u1 0 0 _
  refine S_if_eqN d_PG_isOnWire_34 rfl (by omega) (fun c => by first | exact absurd c (by omega) | exact c.elim | exact absurd c (by decide) | exact absurd (by assumption) c | exact absurd c (by assumption) | exact absurd c (Int32.not_le.mpr (by assumption))) (fun _ => ?_)
  refine ST.lift (fun _ _ k => T_iconst (v := nI 1) d_PG_isOnWire_37 (by decide) k) ?_
  refine ST.lift (fun _ _ k => T_goto (tgt := 42) d_PG_isOnWire_38 rfl k) ?_
  refine S_topi (y := nI 1) (congrArg nI (by omega)) ?_
  exact S_ret d_PG_isOnWire_42 rfl (nar_z (by omega)) (by decide) (by decide) (hQ _ hv2 hm4 (fe0_u1.trans (congrArg nI (by omega))))
set_option maxRecDepth 100000 in
set_option maxHeartbeats 4000000 in
theorem c_PG_wire_0_1_in (G : GX) (v : Nat → Int32) (i : Nat) (b_i : i < 2147483648) (k : Nat) (e28 : v 28 = nI k) (hk : i < k ∧ k ≤ 96) (hv : okv v) : CS G mi_PG_wire [.ref 61, .int (nI 0), .int (nI 1), .int (nI i)] v (fun r v' => ∃ z : Int32, r = some (.int z) ∧ okv v' ∧ mdf [] v v' ∧ v' 28 = nI k) := by
  refine CS.of (by decide) (Nat.le_of_ble_eq_true rfl) ?_
  generalize hQe : (fun (r : Option Value) (v' : Nat → Int32) => ∃ z : Int32, r = some (.int z) ∧ okv v' ∧ mdf [] v v' ∧ v' 28 = nI k) = Q
  have hQ : ∀ (z : Int32) (u : Nat → Int32), okv u → mdf [] v u → u 28 = nI k → Q (some (.int z)) u := by rw [← hQe]; exact fun z u h1 h2 f0 => ⟨z, rfl, h1, h2, f0⟩
  clear hQe
  have hm : mdf [] v v := mdf.rf
  show ST G mi_PG_wire 0 [(0, .ref 61), (1, .int (nI 0)), (2, .int (nI 1)), (3, .int (nI i))] [] v 0 0 Q
  refine ST.lift (fun _ _ k => T_aload_n (v := .ref 61) d_PG_wire_0 rfl (Or.inr ⟨_, rfl⟩) k) ?_
  refine ST.lift (fun _ _ k => T_iload_n d_PG_wire_1 rfl k) ?_
  refine ST.lift (fun _ _ k => T_iload_n d_PG_wire_2 rfl k) ?_
  refine ST.lift (fun _ _ k => T_iload_n d_PG_wire_3 rfl k) ?_
  refine S_virtual (as := [.int (nI 0), .int (nI 1), .int (nI i)]) (rest := []) (b := 61) d_PG_wire_4 rfl (jw_PG_isOnWire.jo (by decide)) lm_PG_154 ji_PG_isOnWire js_PG_isOnWire (w61 _) rfl rfl rfl (Nat.le_of_ble_eq_true rfl) (by decide) (by decide) (c_PG_isOnWire_0_1_in G v i (by omega) k e28 (by omega) hv) (fun r u1 hq => ?_)
  obtain ⟨hr, hv2, hm3, fe0_u1⟩ := hq
  rw [hr]
  clear hr r
  have hm4 := hm.go hm3 (by intro i hi; simp only [List.mem_cons, List.not_mem_nil, or_false] at hi ⊢ <;> omega)
  have e5 : u1 28 = nI k := (hm3 28 (by decide)).trans e28
  show ST G mi_PG_wire 7 [(0, .ref 61), (1, .int (nI 0)), (2, .int (nI 1)), (3, .int (nI i))] [.int (nI 1)] u1 0 0 _
  refine S_if_neN d_PG_wire_7 rfl (by omega) (fun _ => ?_) (fun c => by first | exact absurd c (by omega) | exact c.elim | exact absurd c (by decide) | exact absurd (by assumption) c | exact absurd c (by assumption) | exact absurd c (Int32.not_le.mpr (by assumption)))
  refine ST.lift (fun _ _ k => T_aload_n (v := .ref 61) d_PG_wire_18 rfl (Or.inr ⟨_, rfl⟩) k) ?_
  refine S_getfield d_PG_wire_19 fg_PG_34 (w61 _) rfl ?_
  refine ST.lift (fun _ _ k => T_iload_n d_PG_wire_22 rfl k) ?_
  refine S_aaload (C0 := "PasswordGate$Session") d_PG_wire_23 (by decide) (w264 _) rfl (vp_in_nI (by omega) (by omega)) ?_
  refine S_getfield d_PG_wire_24 fg_PG_158 (w265 _) rfl ?_
  refine ST.lift (fun _ _ k => T_iload_n d_PG_wire_27 rfl k) ?_
  refine ST.lift (fun _ _ k => T_iconst (v := nI 1) d_PG_wire_28 (by decide) k) ?_
  refine S_isubN d_PG_wire_29 (by omega) ?_
  refine S_topi (y := nI 0) (by decide) ?_
  refine S_aaload (C0 := "PasswordGate$Bytes") d_PG_wire_30 (by decide) (w266 _) rfl (vp_in_nI (by omega) (by omega)) ?_
  refine S_getfield d_PG_wire_31 fg_PG_93 (w279 _) rfl ?_
  refine ST.lift (fun _ _ k => T_iload_n d_PG_wire_34 rfl k) ?_
  refine S_baload d_PG_wire_35 a280 (vp_in_nI (by omega) (by omega)) (fun z6 hz6 => ?_)
  refine ST.lift (fun _ _ k => T_sipush (v := nI 255) d_PG_wire_36 (by decide) k) ?_
  refine S_iandM 8 d_PG_wire_39 (by decide) (by decide) (fun j7 hj7 => ?_)
  simp only [Nat.reducePow] at hj7
  exact S_ret d_PG_wire_40 rfl rfl (by decide) (by decide) (hQ _ _ hv2 hm4 (fe0_u1.trans (congrArg nI (by omega))))
set_option maxRecDepth 100000 in
set_option maxHeartbeats 4000000 in
theorem c_PG_isOnWire_0_2_neg (G : GX) (v : Nat → Int32) (z : Int32) (hz_n : z < 0) (hv : okv v) : CS G mi_PG_isOnWire [.ref 61, .int (nI 0), .int (nI 2), .int z] v (fun r v' => r = some (.int (nI 0)) ∧ okv v' ∧ mdf [] v v') := by
  refine CS.of (by decide) (Nat.le_of_ble_eq_true rfl) ?_
  generalize hQe : (fun (r : Option Value) (v' : Nat → Int32) => r = some (.int (nI 0)) ∧ okv v' ∧ mdf [] v v') = Q
  have hQ : ∀ u, okv u → mdf [] v u → Q (some (.int (nI 0))) u := by rw [← hQe]; exact fun u h1 h2  => ⟨rfl, h1, h2⟩
  clear hQe
  have hm : mdf [] v v := mdf.rf
  show ST G mi_PG_isOnWire 0 [(0, .ref 61), (1, .int (nI 0)), (2, .int (nI 2)), (3, .int z)] [] v 0 0 Q
  refine ST.lift (fun _ _ k => T_iload_n d_PG_isOnWire_0 rfl k) ?_
  refine S_static (as := [.int (nI 0)]) (rest := []) d_PG_isOnWire_1 rfl (jw_PG_isSession.jo (by decide)) lm_PG_133 jt_PG_isSession rfl (Nat.le_of_ble_eq_true rfl) (by decide) (by decide) (c_PG_isSession G v 0 (by omega)) (fun r v' hq => ?_)
  rw [hq.1, hq.2]
  clear hq r v'
  show ST G mi_PG_isOnWire 4 [(0, .ref 61), (1, .int (nI 0)), (2, .int (nI 2)), (3, .int z)] [.int (nI 1)] v 0 0 _
  refine S_if_eqN d_PG_isOnWire_4 rfl (by omega) (fun c => by first | exact absurd c (by omega) | exact c.elim | exact absurd c (by decide) | exact absurd (by assumption) c | exact absurd c (by assumption) | exact absurd c (Int32.not_le.mpr (by assumption))) (fun _ => ?_)
  refine ST.lift (fun _ _ k => T_iload_n d_PG_isOnWire_7 rfl k) ?_
  refine ST.lift (fun _ _ k => T_iconst (v := nI 1) d_PG_isOnWire_8 (by decide) k) ?_
  refine S_icmp_ltN d_PG_isOnWire_9 rfl (by omega) (by omega) (fun c => by first | exact absurd c (by omega) | exact c.elim | exact absurd c (by decide) | exact absurd (by assumption) c | exact absurd c (by assumption) | exact absurd c (Int32.not_le.mpr (by assumption))) (fun _ => ?_)
  refine ST.lift (fun _ _ k => T_iload_n d_PG_isOnWire_12 rfl k) ?_
  refine ST.lift (fun _ _ k => T_iconst (v := nI 3) d_PG_isOnWire_13 (by decide) k) ?_
  refine S_icmp_gtN d_PG_isOnWire_14 rfl (by omega) (by omega) (fun c => by first | exact absurd c (by omega) | exact c.elim | exact absurd c (by decide) | exact absurd (by assumption) c | exact absurd c (by assumption) | exact absurd c (Int32.not_le.mpr (by assumption))) (fun _ => ?_)
  refine ST.lift (fun _ _ k => T_aload_n (v := .ref 61) d_PG_isOnWire_17 rfl (Or.inr ⟨_, rfl⟩) k) ?_
  refine S_getfield d_PG_isOnWire_18 fg_PG_34 (w61 _) rfl ?_
  refine ST.lift (fun _ _ k => T_iload_n d_PG_isOnWire_21 rfl k) ?_
  refine S_aaload (C0 := "PasswordGate$Session") d_PG_isOnWire_22 (by decide) (w264 _) rfl (vp_in_nI (by omega) (by omega)) ?_
  refine S_getfield d_PG_isOnWire_23 fg_PG_158 (w265 _) rfl ?_
  refine ST.lift (fun _ _ k => T_iload_n d_PG_isOnWire_26 rfl k) ?_
  refine ST.lift (fun _ _ k => T_iconst (v := nI 1) d_PG_isOnWire_27 (by decide) k) ?_
  refine S_isubN d_PG_isOnWire_28 (by omega) ?_
  refine S_topi (y := nI 1) (by decide) ?_
  refine S_aaload (C0 := "PasswordGate$Bytes") d_PG_isOnWire_29 (by decide) (w266 _) rfl (vp_in_nI (by omega) (by omega)) ?_
  refine ST.lift (fun _ _ k => T_iload_n d_PG_isOnWire_30 rfl k) ?_
  refine S_virtual (as := [.int z]) (rest := []) (b := 281) d_PG_isOnWire_31 rfl (jw_By_has.jo (by decide)) lm_PG_119 ji_By_has js_By_has (w281 _) rfl rfl rfl (Nat.le_of_ble_eq_true rfl) (by decide) (by decide) (c_By_has_neg G v 281 282 320 29 ⟨w281, a282, by decide, u281_1, by decide, by decide⟩ z hz_n hv) (fun r u1 hq => ?_)
  obtain ⟨hr, hv2, hm3⟩ := hq
  rw [hr]
  clear hr r
  have hm4 := hm.go hm3 (by intro i hi; simp only [List.mem_cons, List.not_mem_nil, or_false] at hi ⊢ <;> omega)
  show ST G mi_PG_isOnWire 34 [(0, .ref 61), (1, .int (nI 0)), (2, .int (nI 2)), (3, .int z)] [.int (nI 0)] u1 0 0 _
  refine S_if_eqN d_PG_isOnWire_34 rfl (by omega) (fun _ => ?_) (fun c => by first | exact absurd c (by omega) | exact c.elim | exact absurd c (by decide) | exact absurd (by assumption) c | exact absurd c (by assumption) | exact absurd c (Int32.not_le.mpr (by assumption)))
  refine ST.lift (fun _ _ k => T_iconst (v := nI 0) d_PG_isOnWire_41 (by decide) k) ?_
  refine S_topi (y := nI 0) (congrArg nI (by omega)) ?_
  exact S_ret d_PG_isOnWire_42 rfl (nar_z (by omega)) (by decide) (by decide) (hQ _ hv2 hm4)
set_option maxRecDepth 100000 in
set_option maxHeartbeats 4000000 in
theorem c_PG_tamper_0_2_neg (G : GX) (v : Nat → Int32) (z : Int32) (mask : Int32) (hz_n : z < 0) (hv : okv v) : CS G mi_PG_tamper [.ref 61, .int (nI 0), .int (nI 2), .int z, .int mask] v (fun r v' => r = some (.int (nI 0)) ∧ okv v' ∧ mdf [] v v') := by
  refine CS.of (by decide) (Nat.le_of_ble_eq_true rfl) ?_
  generalize hQe : (fun (r : Option Value) (v' : Nat → Int32) => r = some (.int (nI 0)) ∧ okv v' ∧ mdf [] v v') = Q
  have hQ : ∀ u, okv u → mdf [] v u → Q (some (.int (nI 0))) u := by rw [← hQe]; exact fun u h1 h2  => ⟨rfl, h1, h2⟩
  clear hQe
  have hm : mdf [] v v := mdf.rf
  show ST G mi_PG_tamper 0 [(0, .ref 61), (1, .int (nI 0)), (2, .int (nI 2)), (3, .int z), (4, .int mask)] [] v 0 0 Q
  refine ST.lift (fun _ _ k => T_aload_n (v := .ref 61) d_PG_tamper_0 rfl (Or.inr ⟨_, rfl⟩) k) ?_
  refine ST.lift (fun _ _ k => T_iload_n d_PG_tamper_1 rfl k) ?_
  refine ST.lift (fun _ _ k => T_iload_n d_PG_tamper_2 rfl k) ?_
  refine ST.lift (fun _ _ k => T_iload_n d_PG_tamper_3 rfl k) ?_
  refine S_virtual (as := [.int (nI 0), .int (nI 2), .int z]) (rest := []) (b := 61) d_PG_tamper_4 rfl (jw_PG_isOnWire.jo (by decide)) lm_PG_154 ji_PG_isOnWire js_PG_isOnWire (w61 _) rfl rfl rfl (Nat.le_of_ble_eq_true rfl) (by decide) (by decide) (c_PG_isOnWire_0_2_neg G v z hz_n hv) (fun r u1 hq => ?_)
  obtain ⟨hr, hv2, hm3⟩ := hq
  rw [hr]
  clear hr r
  have hm4 := hm.go hm3 (by intro i hi; simp only [List.mem_cons, List.not_mem_nil, or_false] at hi ⊢ <;> omega)
  show ST G mi_PG_tamper 7 [(0, .ref 61), (1, .int (nI 0)), (2, .int (nI 2)), (3, .int z), (4, .int mask)] [.int (nI 0)] u1 0 0 _
  refine S_if_neN d_PG_tamper_7 rfl (by omega) (fun c => by first | exact absurd c (by omega) | exact c.elim | exact absurd c (by decide) | exact absurd (by assumption) c | exact absurd c (by assumption) | exact absurd c (Int32.not_le.mpr (by assumption))) (fun _ => ?_)
  refine ST.lift (fun _ _ k => T_iconst (v := nI 0) d_PG_tamper_10 (by decide) k) ?_
  refine S_topi (y := nI 0) (congrArg nI (by omega)) ?_
  exact S_ret d_PG_tamper_11 rfl (nar_z (by omega)) (by decide) (by decide) (hQ _ hv2 hm4)
set_option maxRecDepth 100000 in
set_option maxHeartbeats 4000000 in
theorem c_PG_isOnWire_0_2_out (G : GX) (v : Nat → Int32) (i : Nat) (b_i : i < 2147483648) (k : Nat) (e29 : v 29 = nI k) (hk : k ≤ i ∧ k ≤ 320) (hv : okv v) : CS G mi_PG_isOnWire [.ref 61, .int (nI 0), .int (nI 2), .int (nI i)] v (fun r v' => r = some (.int (nI 0)) ∧ okv v' ∧ mdf [] v v' ∧ v' 29 = nI k) := by
  refine CS.of (by decide) (Nat.le_of_ble_eq_true rfl) ?_
  generalize hQe : (fun (r : Option Value) (v' : Nat → Int32) => r = some (.int (nI 0)) ∧ okv v' ∧ mdf [] v v' ∧ v' 29 = nI k) = Q
  have hQ : ∀ u, okv u → mdf [] v u → u 29 = nI k → Q (some (.int (nI 0))) u := by rw [← hQe]; exact fun u h1 h2 f0 => ⟨rfl, h1, h2, f0⟩
  clear hQe
  have hm : mdf [] v v := mdf.rf
  show ST G mi_PG_isOnWire 0 [(0, .ref 61), (1, .int (nI 0)), (2, .int (nI 2)), (3, .int (nI i))] [] v 0 0 Q
  refine ST.lift (fun _ _ k => T_iload_n d_PG_isOnWire_0 rfl k) ?_
  refine S_static (as := [.int (nI 0)]) (rest := []) d_PG_isOnWire_1 rfl (jw_PG_isSession.jo (by decide)) lm_PG_133 jt_PG_isSession rfl (Nat.le_of_ble_eq_true rfl) (by decide) (by decide) (c_PG_isSession G v 0 (by omega)) (fun r v' hq => ?_)
  rw [hq.1, hq.2]
  clear hq r v'
  show ST G mi_PG_isOnWire 4 [(0, .ref 61), (1, .int (nI 0)), (2, .int (nI 2)), (3, .int (nI i))] [.int (nI 1)] v 0 0 _
  refine S_if_eqN d_PG_isOnWire_4 rfl (by omega) (fun c => by first | exact absurd c (by omega) | exact c.elim | exact absurd c (by decide) | exact absurd (by assumption) c | exact absurd c (by assumption) | exact absurd c (Int32.not_le.mpr (by assumption))) (fun _ => ?_)
  refine ST.lift (fun _ _ k => T_iload_n d_PG_isOnWire_7 rfl k) ?_
  refine ST.lift (fun _ _ k => T_iconst (v := nI 1) d_PG_isOnWire_8 (by decide) k) ?_
  refine S_icmp_ltN d_PG_isOnWire_9 rfl (by omega) (by omega) (fun c => by first | exact absurd c (by omega) | exact c.elim | exact absurd c (by decide) | exact absurd (by assumption) c | exact absurd c (by assumption) | exact absurd c (Int32.not_le.mpr (by assumption))) (fun _ => ?_)
  refine ST.lift (fun _ _ k => T_iload_n d_PG_isOnWire_12 rfl k) ?_
  refine ST.lift (fun _ _ k => T_iconst (v := nI 3) d_PG_isOnWire_13 (by decide) k) ?_
  refine S_icmp_gtN d_PG_isOnWire_14 rfl (by omega) (by omega) (fun c => by first | exact absurd c (by omega) | exact c.elim | exact absurd c (by decide) | exact absurd (by assumption) c | exact absurd c (by assumption) | exact absurd c (Int32.not_le.mpr (by assumption))) (fun _ => ?_)
  refine ST.lift (fun _ _ k => T_aload_n (v := .ref 61) d_PG_isOnWire_17 rfl (Or.inr ⟨_, rfl⟩) k) ?_
  refine S_getfield d_PG_isOnWire_18 fg_PG_34 (w61 _) rfl ?_
  refine ST.lift (fun _ _ k => T_iload_n d_PG_isOnWire_21 rfl k) ?_
  refine S_aaload (C0 := "PasswordGate$Session") d_PG_isOnWire_22 (by decide) (w264 _) rfl (vp_in_nI (by omega) (by omega)) ?_
  refine S_getfield d_PG_isOnWire_23 fg_PG_158 (w265 _) rfl ?_
  refine ST.lift (fun _ _ k => T_iload_n d_PG_isOnWire_26 rfl k) ?_
  refine ST.lift (fun _ _ k => T_iconst (v := nI 1) d_PG_isOnWire_27 (by decide) k) ?_
  refine S_isubN d_PG_isOnWire_28 (by omega) ?_
  refine S_topi (y := nI 1) (by decide) ?_
  refine S_aaload (C0 := "PasswordGate$Bytes") d_PG_isOnWire_29 (by decide) (w266 _) rfl (vp_in_nI (by omega) (by omega)) ?_
  refine ST.lift (fun _ _ k => T_iload_n d_PG_isOnWire_30 rfl k) ?_
  refine S_virtual (as := [.int (nI i)]) (rest := []) (b := 281) d_PG_isOnWire_31 rfl (jw_By_has.jo (by decide)) lm_PG_119 ji_By_has js_By_has (w281 _) rfl rfl rfl (Nat.le_of_ble_eq_true rfl) (by decide) (by decide) (c_By_has_out G v 281 282 320 29 ⟨w281, a282, by decide, u281_1, by decide, by decide⟩ i (by omega) k e29 (by omega) hv) (fun r u1 hq => ?_)
  obtain ⟨hr, hv2, hm3, fe0_u1⟩ := hq
  rw [hr]
  clear hr r
  have hm4 := hm.go hm3 (by intro i hi; simp only [List.mem_cons, List.not_mem_nil, or_false] at hi ⊢ <;> omega)
  have e5 : u1 29 = nI k := (hm3 29 (by decide)).trans e29
  show ST G mi_PG_isOnWire 34 [(0, .ref 61), (1, .int (nI 0)), (2, .int (nI 2)), (3, .int (nI i))] [.int (nI 0)] u1 0 0 _
  refine S_if_eqN d_PG_isOnWire_34 rfl (by omega) (fun _ => ?_) (fun c => by first | exact absurd c (by omega) | exact c.elim | exact absurd c (by decide) | exact absurd (by assumption) c | exact absurd c (by assumption) | exact absurd c (Int32.not_le.mpr (by assumption)))
  refine ST.lift (fun _ _ k => T_iconst (v := nI 0) d_PG_isOnWire_41 (by decide) k) ?_
  refine S_topi (y := nI 0) (congrArg nI (by omega)) ?_
  exact S_ret d_PG_isOnWire_42 rfl (nar_z (by omega)) (by decide) (by decide) (hQ _ hv2 hm4 (fe0_u1.trans (congrArg nI (by omega))))
set_option maxRecDepth 100000 in
set_option maxHeartbeats 4000000 in
theorem c_PG_tamper_0_2_out (G : GX) (v : Nat → Int32) (i : Nat) (b_i : i < 2147483648) (mask : Int32) (k : Nat) (e29 : v 29 = nI k) (hk : k ≤ i ∧ k ≤ 320) (hv : okv v) : CS G mi_PG_tamper [.ref 61, .int (nI 0), .int (nI 2), .int (nI i), .int mask] v (fun r v' => r = some (.int (nI 0)) ∧ okv v' ∧ mdf [] v v' ∧ v' 29 = nI k) := by
  refine CS.of (by decide) (Nat.le_of_ble_eq_true rfl) ?_
  generalize hQe : (fun (r : Option Value) (v' : Nat → Int32) => r = some (.int (nI 0)) ∧ okv v' ∧ mdf [] v v' ∧ v' 29 = nI k) = Q
  have hQ : ∀ u, okv u → mdf [] v u → u 29 = nI k → Q (some (.int (nI 0))) u := by rw [← hQe]; exact fun u h1 h2 f0 => ⟨rfl, h1, h2, f0⟩
  clear hQe
  have hm : mdf [] v v := mdf.rf
  show ST G mi_PG_tamper 0 [(0, .ref 61), (1, .int (nI 0)), (2, .int (nI 2)), (3, .int (nI i)), (4, .int mask)] [] v 0 0 Q
  refine ST.lift (fun _ _ k => T_aload_n (v := .ref 61) d_PG_tamper_0 rfl (Or.inr ⟨_, rfl⟩) k) ?_
  refine ST.lift (fun _ _ k => T_iload_n d_PG_tamper_1 rfl k) ?_
  refine ST.lift (fun _ _ k => T_iload_n d_PG_tamper_2 rfl k) ?_
  refine ST.lift (fun _ _ k => T_iload_n d_PG_tamper_3 rfl k) ?_
  refine S_virtual (as := [.int (nI 0), .int (nI 2), .int (nI i)]) (rest := []) (b := 61) d_PG_tamper_4 rfl (jw_PG_isOnWire.jo (by decide)) lm_PG_154 ji_PG_isOnWire js_PG_isOnWire (w61 _) rfl rfl rfl (Nat.le_of_ble_eq_true rfl) (by decide) (by decide) (c_PG_isOnWire_0_2_out G v i (by omega) k e29 (by omega) hv) (fun r u1 hq => ?_)
  obtain ⟨hr, hv2, hm3, fe0_u1⟩ := hq
  rw [hr]
  clear hr r
  have hm4 := hm.go hm3 (by intro i hi; simp only [List.mem_cons, List.not_mem_nil, or_false] at hi ⊢ <;> omega)
  have e5 : u1 29 = nI k := (hm3 29 (by decide)).trans e29
  show ST G mi_PG_tamper 7 [(0, .ref 61), (1, .int (nI 0)), (2, .int (nI 2)), (3, .int (nI i)), (4, .int mask)] [.int (nI 0)] u1 0 0 _
  refine S_if_neN d_PG_tamper_7 rfl (by omega) (fun c => by first | exact absurd c (by omega) | exact c.elim | exact absurd c (by decide) | exact absurd (by assumption) c | exact absurd c (by assumption) | exact absurd c (Int32.not_le.mpr (by assumption))) (fun _ => ?_)
  refine ST.lift (fun _ _ k => T_iconst (v := nI 0) d_PG_tamper_10 (by decide) k) ?_
  refine S_topi (y := nI 0) (congrArg nI (by omega)) ?_
  exact S_ret d_PG_tamper_11 rfl (nar_z (by omega)) (by decide) (by decide) (hQ _ hv2 hm4 (fe0_u1.trans (congrArg nI (by omega))))
set_option maxRecDepth 100000 in
set_option maxHeartbeats 4000000 in
theorem c_PG_isOnWire_0_2_in (G : GX) (v : Nat → Int32) (i : Nat) (b_i : i < 2147483648) (k : Nat) (e29 : v 29 = nI k) (hk : i < k ∧ k ≤ 320) (hv : okv v) : CS G mi_PG_isOnWire [.ref 61, .int (nI 0), .int (nI 2), .int (nI i)] v (fun r v' => r = some (.int (nI 1)) ∧ okv v' ∧ mdf [] v v' ∧ v' 29 = nI k) := by
  refine CS.of (by decide) (Nat.le_of_ble_eq_true rfl) ?_
  generalize hQe : (fun (r : Option Value) (v' : Nat → Int32) => r = some (.int (nI 1)) ∧ okv v' ∧ mdf [] v v' ∧ v' 29 = nI k) = Q
  have hQ : ∀ u, okv u → mdf [] v u → u 29 = nI k → Q (some (.int (nI 1))) u := by rw [← hQe]; exact fun u h1 h2 f0 => ⟨rfl, h1, h2, f0⟩
  clear hQe
  have hm : mdf [] v v := mdf.rf
  show ST G mi_PG_isOnWire 0 [(0, .ref 61), (1, .int (nI 0)), (2, .int (nI 2)), (3, .int (nI i))] [] v 0 0 Q
  refine ST.lift (fun _ _ k => T_iload_n d_PG_isOnWire_0 rfl k) ?_
  refine S_static (as := [.int (nI 0)]) (rest := []) d_PG_isOnWire_1 rfl (jw_PG_isSession.jo (by decide)) lm_PG_133 jt_PG_isSession rfl (Nat.le_of_ble_eq_true rfl) (by decide) (by decide) (c_PG_isSession G v 0 (by omega)) (fun r v' hq => ?_)
  rw [hq.1, hq.2]
  clear hq r v'
  show ST G mi_PG_isOnWire 4 [(0, .ref 61), (1, .int (nI 0)), (2, .int (nI 2)), (3, .int (nI i))] [.int (nI 1)] v 0 0 _
  refine S_if_eqN d_PG_isOnWire_4 rfl (by omega) (fun c => by first | exact absurd c (by omega) | exact c.elim | exact absurd c (by decide) | exact absurd (by assumption) c | exact absurd c (by assumption) | exact absurd c (Int32.not_le.mpr (by assumption))) (fun _ => ?_)
  refine ST.lift (fun _ _ k => T_iload_n d_PG_isOnWire_7 rfl k) ?_
  refine ST.lift (fun _ _ k => T_iconst (v := nI 1) d_PG_isOnWire_8 (by decide) k) ?_
  refine S_icmp_ltN d_PG_isOnWire_9 rfl (by omega) (by omega) (fun c => by first | exact absurd c (by omega) | exact c.elim | exact absurd c (by decide) | exact absurd (by assumption) c | exact absurd c (by assumption) | exact absurd c (Int32.not_le.mpr (by assumption))) (fun _ => ?_)
  refine ST.lift (fun _ _ k => T_iload_n d_PG_isOnWire_12 rfl k) ?_
  refine ST.lift (fun _ _ k => T_iconst (v := nI 3) d_PG_isOnWire_13 (by decide) k) ?_
  refine S_icmp_gtN d_PG_isOnWire_14 rfl (by omega) (by omega) (fun c => by first | exact absurd c (by omega) | exact c.elim | exact absurd c (by decide) | exact absurd (by assumption) c | exact absurd c (by assumption) | exact absurd c (Int32.not_le.mpr (by assumption))) (fun _ => ?_)
  refine ST.lift (fun _ _ k => T_aload_n (v := .ref 61) d_PG_isOnWire_17 rfl (Or.inr ⟨_, rfl⟩) k) ?_
  refine S_getfield d_PG_isOnWire_18 fg_PG_34 (w61 _) rfl ?_
  refine ST.lift (fun _ _ k => T_iload_n d_PG_isOnWire_21 rfl k) ?_
  refine S_aaload (C0 := "PasswordGate$Session") d_PG_isOnWire_22 (by decide) (w264 _) rfl (vp_in_nI (by omega) (by omega)) ?_
  refine S_getfield d_PG_isOnWire_23 fg_PG_158 (w265 _) rfl ?_
  refine ST.lift (fun _ _ k => T_iload_n d_PG_isOnWire_26 rfl k) ?_
  refine ST.lift (fun _ _ k => T_iconst (v := nI 1) d_PG_isOnWire_27 (by decide) k) ?_
  refine S_isubN d_PG_isOnWire_28 (by omega) ?_
  refine S_topi (y := nI 1) (by decide) ?_
  refine S_aaload (C0 := "PasswordGate$Bytes") d_PG_isOnWire_29 (by decide) (w266 _) rfl (vp_in_nI (by omega) (by omega)) ?_
  refine ST.lift (fun _ _ k => T_iload_n d_PG_isOnWire_30 rfl k) ?_
  refine S_virtual (as := [.int (nI i)]) (rest := []) (b := 281) d_PG_isOnWire_31 rfl (jw_By_has.jo (by decide)) lm_PG_119 ji_By_has js_By_has (w281 _) rfl rfl rfl (Nat.le_of_ble_eq_true rfl) (by decide) (by decide) (c_By_has_in G v 281 282 320 29 ⟨w281, a282, by decide, u281_1, by decide, by decide⟩ i (by omega) k e29 (by omega) hv) (fun r u1 hq => ?_)
  obtain ⟨hr, hv2, hm3, fe0_u1⟩ := hq
  rw [hr]
  clear hr r
  have hm4 := hm.go hm3 (by intro i hi; simp only [List.mem_cons, List.not_mem_nil, or_false] at hi ⊢ <;> omega)
  have e5 : u1 29 = nI k := (hm3 29 (by decide)).trans e29
  show ST G mi_PG_isOnWire 34 [(0, .ref 61), (1, .int (nI 0)), (2, .int (nI 2)), (3, .int (nI i))] [.int (nI 1)] u1 0 0 _
  refine S_if_eqN d_PG_isOnWire_34 rfl (by omega) (fun c => by first | exact absurd c (by omega) | exact c.elim | exact absurd c (by decide) | exact absurd (by assumption) c | exact absurd c (by assumption) | exact absurd c (Int32.not_le.mpr (by assumption))) (fun _ => ?_)
  refine ST.lift (fun _ _ k => T_iconst (v := nI 1) d_PG_isOnWire_37 (by decide) k) ?_
  refine ST.lift (fun _ _ k => T_goto (tgt := 42) d_PG_isOnWire_38 rfl k) ?_
  refine S_topi (y := nI 1) (congrArg nI (by omega)) ?_
  exact S_ret d_PG_isOnWire_42 rfl (nar_z (by omega)) (by decide) (by decide) (hQ _ hv2 hm4 (fe0_u1.trans (congrArg nI (by omega))))
set_option maxRecDepth 100000 in
set_option maxHeartbeats 4000000 in
theorem c_PG_wire_0_2_in (G : GX) (v : Nat → Int32) (i : Nat) (b_i : i < 2147483648) (k : Nat) (e29 : v 29 = nI k) (hk : i < k ∧ k ≤ 320) (hv : okv v) : CS G mi_PG_wire [.ref 61, .int (nI 0), .int (nI 2), .int (nI i)] v (fun r v' => ∃ z : Int32, r = some (.int z) ∧ okv v' ∧ mdf [] v v' ∧ v' 29 = nI k) := by
  refine CS.of (by decide) (Nat.le_of_ble_eq_true rfl) ?_
  generalize hQe : (fun (r : Option Value) (v' : Nat → Int32) => ∃ z : Int32, r = some (.int z) ∧ okv v' ∧ mdf [] v v' ∧ v' 29 = nI k) = Q
  have hQ : ∀ (z : Int32) (u : Nat → Int32), okv u → mdf [] v u → u 29 = nI k → Q (some (.int z)) u := by rw [← hQe]; exact fun z u h1 h2 f0 => ⟨z, rfl, h1, h2, f0⟩
  clear hQe
  have hm : mdf [] v v := mdf.rf
  show ST G mi_PG_wire 0 [(0, .ref 61), (1, .int (nI 0)), (2, .int (nI 2)), (3, .int (nI i))] [] v 0 0 Q
  refine ST.lift (fun _ _ k => T_aload_n (v := .ref 61) d_PG_wire_0 rfl (Or.inr ⟨_, rfl⟩) k) ?_
  refine ST.lift (fun _ _ k => T_iload_n d_PG_wire_1 rfl k) ?_
  refine ST.lift (fun _ _ k => T_iload_n d_PG_wire_2 rfl k) ?_
  refine ST.lift (fun _ _ k => T_iload_n d_PG_wire_3 rfl k) ?_
  refine S_virtual (as := [.int (nI 0), .int (nI 2), .int (nI i)]) (rest := []) (b := 61) d_PG_wire_4 rfl (jw_PG_isOnWire.jo (by decide)) lm_PG_154 ji_PG_isOnWire js_PG_isOnWire (w61 _) rfl rfl rfl (Nat.le_of_ble_eq_true rfl) (by decide) (by decide) (c_PG_isOnWire_0_2_in G v i (by omega) k e29 (by omega) hv) (fun r u1 hq => ?_)
  obtain ⟨hr, hv2, hm3, fe0_u1⟩ := hq
  rw [hr]
  clear hr r
  have hm4 := hm.go hm3 (by intro i hi; simp only [List.mem_cons, List.not_mem_nil, or_false] at hi ⊢ <;> omega)
  have e5 : u1 29 = nI k := (hm3 29 (by decide)).trans e29
  show ST G mi_PG_wire 7 [(0, .ref 61), (1, .int (nI 0)), (2, .int (nI 2)), (3, .int (nI i))] [.int (nI 1)] u1 0 0 _
  refine S_if_neN d_PG_wire_7 rfl (by omega) (fun _ => ?_) (fun c => by first | exact absurd c (by omega) | exact c.elim | exact absurd c (by decide) | exact absurd (by assumption) c | exact absurd c (by assumption) | exact absurd c (Int32.not_le.mpr (by assumption)))
  refine ST.lift (fun _ _ k => T_aload_n (v := .ref 61) d_PG_wire_18 rfl (Or.inr ⟨_, rfl⟩) k) ?_
  refine S_getfield d_PG_wire_19 fg_PG_34 (w61 _) rfl ?_
  refine ST.lift (fun _ _ k => T_iload_n d_PG_wire_22 rfl k) ?_
  refine S_aaload (C0 := "PasswordGate$Session") d_PG_wire_23 (by decide) (w264 _) rfl (vp_in_nI (by omega) (by omega)) ?_
  refine S_getfield d_PG_wire_24 fg_PG_158 (w265 _) rfl ?_
  refine ST.lift (fun _ _ k => T_iload_n d_PG_wire_27 rfl k) ?_
  refine ST.lift (fun _ _ k => T_iconst (v := nI 1) d_PG_wire_28 (by decide) k) ?_
  refine S_isubN d_PG_wire_29 (by omega) ?_
  refine S_topi (y := nI 1) (by decide) ?_
  refine S_aaload (C0 := "PasswordGate$Bytes") d_PG_wire_30 (by decide) (w266 _) rfl (vp_in_nI (by omega) (by omega)) ?_
  refine S_getfield d_PG_wire_31 fg_PG_93 (w281 _) rfl ?_
  refine ST.lift (fun _ _ k => T_iload_n d_PG_wire_34 rfl k) ?_
  refine S_baload d_PG_wire_35 a282 (vp_in_nI (by omega) (by omega)) (fun z6 hz6 => ?_)
  refine ST.lift (fun _ _ k => T_sipush (v := nI 255) d_PG_wire_36 (by decide) k) ?_
  refine S_iandM 8 d_PG_wire_39 (by decide) (by decide) (fun j7 hj7 => ?_)
  simp only [Nat.reducePow] at hj7
  exact S_ret d_PG_wire_40 rfl rfl (by decide) (by decide) (hQ _ _ hv2 hm4 (fe0_u1.trans (congrArg nI (by omega))))
set_option maxRecDepth 100000 in
set_option maxHeartbeats 4000000 in
theorem c_PG_isOnWire_0_3_neg (G : GX) (v : Nat → Int32) (z : Int32) (hz_n : z < 0) (hv : okv v) : CS G mi_PG_isOnWire [.ref 61, .int (nI 0), .int (nI 3), .int z] v (fun r v' => r = some (.int (nI 0)) ∧ okv v' ∧ mdf [] v v') := by
  refine CS.of (by decide) (Nat.le_of_ble_eq_true rfl) ?_
  generalize hQe : (fun (r : Option Value) (v' : Nat → Int32) => r = some (.int (nI 0)) ∧ okv v' ∧ mdf [] v v') = Q
  have hQ : ∀ u, okv u → mdf [] v u → Q (some (.int (nI 0))) u := by rw [← hQe]; exact fun u h1 h2  => ⟨rfl, h1, h2⟩
  clear hQe
  have hm : mdf [] v v := mdf.rf
  show ST G mi_PG_isOnWire 0 [(0, .ref 61), (1, .int (nI 0)), (2, .int (nI 3)), (3, .int z)] [] v 0 0 Q
  refine ST.lift (fun _ _ k => T_iload_n d_PG_isOnWire_0 rfl k) ?_
  refine S_static (as := [.int (nI 0)]) (rest := []) d_PG_isOnWire_1 rfl (jw_PG_isSession.jo (by decide)) lm_PG_133 jt_PG_isSession rfl (Nat.le_of_ble_eq_true rfl) (by decide) (by decide) (c_PG_isSession G v 0 (by omega)) (fun r v' hq => ?_)
  rw [hq.1, hq.2]
  clear hq r v'
  show ST G mi_PG_isOnWire 4 [(0, .ref 61), (1, .int (nI 0)), (2, .int (nI 3)), (3, .int z)] [.int (nI 1)] v 0 0 _
  refine S_if_eqN d_PG_isOnWire_4 rfl (by omega) (fun c => by first | exact absurd c (by omega) | exact c.elim | exact absurd c (by decide) | exact absurd (by assumption) c | exact absurd c (by assumption) | exact absurd c (Int32.not_le.mpr (by assumption))) (fun _ => ?_)
  refine ST.lift (fun _ _ k => T_iload_n d_PG_isOnWire_7 rfl k) ?_
  refine ST.lift (fun _ _ k => T_iconst (v := nI 1) d_PG_isOnWire_8 (by decide) k) ?_
  refine S_icmp_ltN d_PG_isOnWire_9 rfl (by omega) (by omega) (fun c => by first | exact absurd c (by omega) | exact c.elim | exact absurd c (by decide) | exact absurd (by assumption) c | exact absurd c (by assumption) | exact absurd c (Int32.not_le.mpr (by assumption))) (fun _ => ?_)
  refine ST.lift (fun _ _ k => T_iload_n d_PG_isOnWire_12 rfl k) ?_
  refine ST.lift (fun _ _ k => T_iconst (v := nI 3) d_PG_isOnWire_13 (by decide) k) ?_
  refine S_icmp_gtN d_PG_isOnWire_14 rfl (by omega) (by omega) (fun c => by first | exact absurd c (by omega) | exact c.elim | exact absurd c (by decide) | exact absurd (by assumption) c | exact absurd c (by assumption) | exact absurd c (Int32.not_le.mpr (by assumption))) (fun _ => ?_)
  refine ST.lift (fun _ _ k => T_aload_n (v := .ref 61) d_PG_isOnWire_17 rfl (Or.inr ⟨_, rfl⟩) k) ?_
  refine S_getfield d_PG_isOnWire_18 fg_PG_34 (w61 _) rfl ?_
  refine ST.lift (fun _ _ k => T_iload_n d_PG_isOnWire_21 rfl k) ?_
  refine S_aaload (C0 := "PasswordGate$Session") d_PG_isOnWire_22 (by decide) (w264 _) rfl (vp_in_nI (by omega) (by omega)) ?_
  refine S_getfield d_PG_isOnWire_23 fg_PG_158 (w265 _) rfl ?_
  refine ST.lift (fun _ _ k => T_iload_n d_PG_isOnWire_26 rfl k) ?_
  refine ST.lift (fun _ _ k => T_iconst (v := nI 1) d_PG_isOnWire_27 (by decide) k) ?_
  refine S_isubN d_PG_isOnWire_28 (by omega) ?_
  refine S_topi (y := nI 2) (by decide) ?_
  refine S_aaload (C0 := "PasswordGate$Bytes") d_PG_isOnWire_29 (by decide) (w266 _) rfl (vp_in_nI (by omega) (by omega)) ?_
  refine ST.lift (fun _ _ k => T_iload_n d_PG_isOnWire_30 rfl k) ?_
  refine S_virtual (as := [.int z]) (rest := []) (b := 283) d_PG_isOnWire_31 rfl (jw_By_has.jo (by decide)) lm_PG_119 ji_By_has js_By_has (w283 _) rfl rfl rfl (Nat.le_of_ble_eq_true rfl) (by decide) (by decide) (c_By_has_neg G v 283 284 64 30 ⟨w283, a284, by decide, u283_1, by decide, by decide⟩ z hz_n hv) (fun r u1 hq => ?_)
  obtain ⟨hr, hv2, hm3⟩ := hq
  rw [hr]
  clear hr r
  have hm4 := hm.go hm3 (by intro i hi; simp only [List.mem_cons, List.not_mem_nil, or_false] at hi ⊢ <;> omega)
  show ST G mi_PG_isOnWire 34 [(0, .ref 61), (1, .int (nI 0)), (2, .int (nI 3)), (3, .int z)] [.int (nI 0)] u1 0 0 _
  refine S_if_eqN d_PG_isOnWire_34 rfl (by omega) (fun _ => ?_) (fun c => by first | exact absurd c (by omega) | exact c.elim | exact absurd c (by decide) | exact absurd (by assumption) c | exact absurd c (by assumption) | exact absurd c (Int32.not_le.mpr (by assumption)))
  refine ST.lift (fun _ _ k => T_iconst (v := nI 0) d_PG_isOnWire_41 (by decide) k) ?_
  refine S_topi (y := nI 0) (congrArg nI (by omega)) ?_
  exact S_ret d_PG_isOnWire_42 rfl (nar_z (by omega)) (by decide) (by decide) (hQ _ hv2 hm4)
set_option maxRecDepth 100000 in
set_option maxHeartbeats 4000000 in
theorem c_PG_tamper_0_3_neg (G : GX) (v : Nat → Int32) (z : Int32) (mask : Int32) (hz_n : z < 0) (hv : okv v) : CS G mi_PG_tamper [.ref 61, .int (nI 0), .int (nI 3), .int z, .int mask] v (fun r v' => r = some (.int (nI 0)) ∧ okv v' ∧ mdf [] v v') := by
  refine CS.of (by decide) (Nat.le_of_ble_eq_true rfl) ?_
  generalize hQe : (fun (r : Option Value) (v' : Nat → Int32) => r = some (.int (nI 0)) ∧ okv v' ∧ mdf [] v v') = Q
  have hQ : ∀ u, okv u → mdf [] v u → Q (some (.int (nI 0))) u := by rw [← hQe]; exact fun u h1 h2  => ⟨rfl, h1, h2⟩
  clear hQe
  have hm : mdf [] v v := mdf.rf
  show ST G mi_PG_tamper 0 [(0, .ref 61), (1, .int (nI 0)), (2, .int (nI 3)), (3, .int z), (4, .int mask)] [] v 0 0 Q
  refine ST.lift (fun _ _ k => T_aload_n (v := .ref 61) d_PG_tamper_0 rfl (Or.inr ⟨_, rfl⟩) k) ?_
  refine ST.lift (fun _ _ k => T_iload_n d_PG_tamper_1 rfl k) ?_
  refine ST.lift (fun _ _ k => T_iload_n d_PG_tamper_2 rfl k) ?_
  refine ST.lift (fun _ _ k => T_iload_n d_PG_tamper_3 rfl k) ?_
  refine S_virtual (as := [.int (nI 0), .int (nI 3), .int z]) (rest := []) (b := 61) d_PG_tamper_4 rfl (jw_PG_isOnWire.jo (by decide)) lm_PG_154 ji_PG_isOnWire js_PG_isOnWire (w61 _) rfl rfl rfl (Nat.le_of_ble_eq_true rfl) (by decide) (by decide) (c_PG_isOnWire_0_3_neg G v z hz_n hv) (fun r u1 hq => ?_)
  obtain ⟨hr, hv2, hm3⟩ := hq
  rw [hr]
  clear hr r
  have hm4 := hm.go hm3 (by intro i hi; simp only [List.mem_cons, List.not_mem_nil, or_false] at hi ⊢ <;> omega)
  show ST G mi_PG_tamper 7 [(0, .ref 61), (1, .int (nI 0)), (2, .int (nI 3)), (3, .int z), (4, .int mask)] [.int (nI 0)] u1 0 0 _
  refine S_if_neN d_PG_tamper_7 rfl (by omega) (fun c => by first | exact absurd c (by omega) | exact c.elim | exact absurd c (by decide) | exact absurd (by assumption) c | exact absurd c (by assumption) | exact absurd c (Int32.not_le.mpr (by assumption))) (fun _ => ?_)
  refine ST.lift (fun _ _ k => T_iconst (v := nI 0) d_PG_tamper_10 (by decide) k) ?_
  refine S_topi (y := nI 0) (congrArg nI (by omega)) ?_
  exact S_ret d_PG_tamper_11 rfl (nar_z (by omega)) (by decide) (by decide) (hQ _ hv2 hm4)
set_option maxRecDepth 100000 in
set_option maxHeartbeats 4000000 in
theorem c_PG_isOnWire_0_3_out (G : GX) (v : Nat → Int32) (i : Nat) (b_i : i < 2147483648) (k : Nat) (e30 : v 30 = nI k) (hk : k ≤ i ∧ k ≤ 64) (hv : okv v) : CS G mi_PG_isOnWire [.ref 61, .int (nI 0), .int (nI 3), .int (nI i)] v (fun r v' => r = some (.int (nI 0)) ∧ okv v' ∧ mdf [] v v' ∧ v' 30 = nI k) := by
  refine CS.of (by decide) (Nat.le_of_ble_eq_true rfl) ?_
  generalize hQe : (fun (r : Option Value) (v' : Nat → Int32) => r = some (.int (nI 0)) ∧ okv v' ∧ mdf [] v v' ∧ v' 30 = nI k) = Q
  have hQ : ∀ u, okv u → mdf [] v u → u 30 = nI k → Q (some (.int (nI 0))) u := by rw [← hQe]; exact fun u h1 h2 f0 => ⟨rfl, h1, h2, f0⟩
  clear hQe
  have hm : mdf [] v v := mdf.rf
  show ST G mi_PG_isOnWire 0 [(0, .ref 61), (1, .int (nI 0)), (2, .int (nI 3)), (3, .int (nI i))] [] v 0 0 Q
  refine ST.lift (fun _ _ k => T_iload_n d_PG_isOnWire_0 rfl k) ?_
  refine S_static (as := [.int (nI 0)]) (rest := []) d_PG_isOnWire_1 rfl (jw_PG_isSession.jo (by decide)) lm_PG_133 jt_PG_isSession rfl (Nat.le_of_ble_eq_true rfl) (by decide) (by decide) (c_PG_isSession G v 0 (by omega)) (fun r v' hq => ?_)
  rw [hq.1, hq.2]
  clear hq r v'
  show ST G mi_PG_isOnWire 4 [(0, .ref 61), (1, .int (nI 0)), (2, .int (nI 3)), (3, .int (nI i))] [.int (nI 1)] v 0 0 _
  refine S_if_eqN d_PG_isOnWire_4 rfl (by omega) (fun c => by first | exact absurd c (by omega) | exact c.elim | exact absurd c (by decide) | exact absurd (by assumption) c | exact absurd c (by assumption) | exact absurd c (Int32.not_le.mpr (by assumption))) (fun _ => ?_)
  refine ST.lift (fun _ _ k => T_iload_n d_PG_isOnWire_7 rfl k) ?_
  refine ST.lift (fun _ _ k => T_iconst (v := nI 1) d_PG_isOnWire_8 (by decide) k) ?_
  refine S_icmp_ltN d_PG_isOnWire_9 rfl (by omega) (by omega) (fun c => by first | exact absurd c (by omega) | exact c.elim | exact absurd c (by decide) | exact absurd (by assumption) c | exact absurd c (by assumption) | exact absurd c (Int32.not_le.mpr (by assumption))) (fun _ => ?_)
  refine ST.lift (fun _ _ k => T_iload_n d_PG_isOnWire_12 rfl k) ?_
  refine ST.lift (fun _ _ k => T_iconst (v := nI 3) d_PG_isOnWire_13 (by decide) k) ?_
  refine S_icmp_gtN d_PG_isOnWire_14 rfl (by omega) (by omega) (fun c => by first | exact absurd c (by omega) | exact c.elim | exact absurd c (by decide) | exact absurd (by assumption) c | exact absurd c (by assumption) | exact absurd c (Int32.not_le.mpr (by assumption))) (fun _ => ?_)
  refine ST.lift (fun _ _ k => T_aload_n (v := .ref 61) d_PG_isOnWire_17 rfl (Or.inr ⟨_, rfl⟩) k) ?_
  refine S_getfield d_PG_isOnWire_18 fg_PG_34 (w61 _) rfl ?_
  refine ST.lift (fun _ _ k => T_iload_n d_PG_isOnWire_21 rfl k) ?_
  refine S_aaload (C0 := "PasswordGate$Session") d_PG_isOnWire_22 (by decide) (w264 _) rfl (vp_in_nI (by omega) (by omega)) ?_
  refine S_getfield d_PG_isOnWire_23 fg_PG_158 (w265 _) rfl ?_
  refine ST.lift (fun _ _ k => T_iload_n d_PG_isOnWire_26 rfl k) ?_
  refine ST.lift (fun _ _ k => T_iconst (v := nI 1) d_PG_isOnWire_27 (by decide) k) ?_
  refine S_isubN d_PG_isOnWire_28 (by omega) ?_
  refine S_topi (y := nI 2) (by decide) ?_
  refine S_aaload (C0 := "PasswordGate$Bytes") d_PG_isOnWire_29 (by decide) (w266 _) rfl (vp_in_nI (by omega) (by omega)) ?_
  refine ST.lift (fun _ _ k => T_iload_n d_PG_isOnWire_30 rfl k) ?_
  refine S_virtual (as := [.int (nI i)]) (rest := []) (b := 283) d_PG_isOnWire_31 rfl (jw_By_has.jo (by decide)) lm_PG_119 ji_By_has js_By_has (w283 _) rfl rfl rfl (Nat.le_of_ble_eq_true rfl) (by decide) (by decide) (c_By_has_out G v 283 284 64 30 ⟨w283, a284, by decide, u283_1, by decide, by decide⟩ i (by omega) k e30 (by omega) hv) (fun r u1 hq => ?_)
  obtain ⟨hr, hv2, hm3, fe0_u1⟩ := hq
  rw [hr]
  clear hr r
  have hm4 := hm.go hm3 (by intro i hi; simp only [List.mem_cons, List.not_mem_nil, or_false] at hi ⊢ <;> omega)
  have e5 : u1 30 = nI k := (hm3 30 (by decide)).trans e30
  show ST G mi_PG_isOnWire 34 [(0, .ref 61), (1, .int (nI 0)), (2, .int (nI 3)), (3, .int (nI i))] [.int (nI 0)] u1 0 0 _
  refine S_if_eqN d_PG_isOnWire_34 rfl (by omega) (fun _ => ?_) (fun c => by first | exact absurd c (by omega) | exact c.elim | exact absurd c (by decide) | exact absurd (by assumption) c | exact absurd c (by assumption) | exact absurd c (Int32.not_le.mpr (by assumption)))
  refine ST.lift (fun _ _ k => T_iconst (v := nI 0) d_PG_isOnWire_41 (by decide) k) ?_
  refine S_topi (y := nI 0) (congrArg nI (by omega)) ?_
  exact S_ret d_PG_isOnWire_42 rfl (nar_z (by omega)) (by decide) (by decide) (hQ _ hv2 hm4 (fe0_u1.trans (congrArg nI (by omega))))
set_option maxRecDepth 100000 in
set_option maxHeartbeats 4000000 in
theorem c_PG_tamper_0_3_out (G : GX) (v : Nat → Int32) (i : Nat) (b_i : i < 2147483648) (mask : Int32) (k : Nat) (e30 : v 30 = nI k) (hk : k ≤ i ∧ k ≤ 64) (hv : okv v) : CS G mi_PG_tamper [.ref 61, .int (nI 0), .int (nI 3), .int (nI i), .int mask] v (fun r v' => r = some (.int (nI 0)) ∧ okv v' ∧ mdf [] v v' ∧ v' 30 = nI k) := by
  refine CS.of (by decide) (Nat.le_of_ble_eq_true rfl) ?_
  generalize hQe : (fun (r : Option Value) (v' : Nat → Int32) => r = some (.int (nI 0)) ∧ okv v' ∧ mdf [] v v' ∧ v' 30 = nI k) = Q
  have hQ : ∀ u, okv u → mdf [] v u → u 30 = nI k → Q (some (.int (nI 0))) u := by rw [← hQe]; exact fun u h1 h2 f0 => ⟨rfl, h1, h2, f0⟩
  clear hQe
  have hm : mdf [] v v := mdf.rf
  show ST G mi_PG_tamper 0 [(0, .ref 61), (1, .int (nI 0)), (2, .int (nI 3)), (3, .int (nI i)), (4, .int mask)] [] v 0 0 Q
  refine ST.lift (fun _ _ k => T_aload_n (v := .ref 61) d_PG_tamper_0 rfl (Or.inr ⟨_, rfl⟩) k) ?_
  refine ST.lift (fun _ _ k => T_iload_n d_PG_tamper_1 rfl k) ?_
  refine ST.lift (fun _ _ k => T_iload_n d_PG_tamper_2 rfl k) ?_
  refine ST.lift (fun _ _ k => T_iload_n d_PG_tamper_3 rfl k) ?_
  refine S_virtual (as := [.int (nI 0), .int (nI 3), .int (nI i)]) (rest := []) (b := 61) d_PG_tamper_4 rfl (jw_PG_isOnWire.jo (by decide)) lm_PG_154 ji_PG_isOnWire js_PG_isOnWire (w61 _) rfl rfl rfl (Nat.le_of_ble_eq_true rfl) (by decide) (by decide) (c_PG_isOnWire_0_3_out G v i (by omega) k e30 (by omega) hv) (fun r u1 hq => ?_)
  obtain ⟨hr, hv2, hm3, fe0_u1⟩ := hq
  rw [hr]
  clear hr r
  have hm4 := hm.go hm3 (by intro i hi; simp only [List.mem_cons, List.not_mem_nil, or_false] at hi ⊢ <;> omega)
  have e5 : u1 30 = nI k := (hm3 30 (by decide)).trans e30
  show ST G mi_PG_tamper 7 [(0, .ref 61), (1, .int (nI 0)), (2, .int (nI 3)), (3, .int (nI i)), (4, .int mask)] [.int (nI 0)] u1 0 0 _
  refine S_if_neN d_PG_tamper_7 rfl (by omega) (fun c => by first | exact absurd c (by omega) | exact c.elim | exact absurd c (by decide) | exact absurd (by assumption) c | exact absurd c (by assumption) | exact absurd c (Int32.not_le.mpr (by assumption))) (fun _ => ?_)
  refine ST.lift (fun _ _ k => T_iconst (v := nI 0) d_PG_tamper_10 (by decide) k) ?_
  refine S_topi (y := nI 0) (congrArg nI (by omega)) ?_
  exact S_ret d_PG_tamper_11 rfl (nar_z (by omega)) (by decide) (by decide) (hQ _ hv2 hm4 (fe0_u1.trans (congrArg nI (by omega))))
set_option maxRecDepth 100000 in
set_option maxHeartbeats 4000000 in
theorem c_PG_isOnWire_0_3_in (G : GX) (v : Nat → Int32) (i : Nat) (b_i : i < 2147483648) (k : Nat) (e30 : v 30 = nI k) (hk : i < k ∧ k ≤ 64) (hv : okv v) : CS G mi_PG_isOnWire [.ref 61, .int (nI 0), .int (nI 3), .int (nI i)] v (fun r v' => r = some (.int (nI 1)) ∧ okv v' ∧ mdf [] v v' ∧ v' 30 = nI k) := by
  refine CS.of (by decide) (Nat.le_of_ble_eq_true rfl) ?_
  generalize hQe : (fun (r : Option Value) (v' : Nat → Int32) => r = some (.int (nI 1)) ∧ okv v' ∧ mdf [] v v' ∧ v' 30 = nI k) = Q
  have hQ : ∀ u, okv u → mdf [] v u → u 30 = nI k → Q (some (.int (nI 1))) u := by rw [← hQe]; exact fun u h1 h2 f0 => ⟨rfl, h1, h2, f0⟩
  clear hQe
  have hm : mdf [] v v := mdf.rf
  show ST G mi_PG_isOnWire 0 [(0, .ref 61), (1, .int (nI 0)), (2, .int (nI 3)), (3, .int (nI i))] [] v 0 0 Q
  refine ST.lift (fun _ _ k => T_iload_n d_PG_isOnWire_0 rfl k) ?_
  refine S_static (as := [.int (nI 0)]) (rest := []) d_PG_isOnWire_1 rfl (jw_PG_isSession.jo (by decide)) lm_PG_133 jt_PG_isSession rfl (Nat.le_of_ble_eq_true rfl) (by decide) (by decide) (c_PG_isSession G v 0 (by omega)) (fun r v' hq => ?_)
  rw [hq.1, hq.2]
  clear hq r v'
  show ST G mi_PG_isOnWire 4 [(0, .ref 61), (1, .int (nI 0)), (2, .int (nI 3)), (3, .int (nI i))] [.int (nI 1)] v 0 0 _
  refine S_if_eqN d_PG_isOnWire_4 rfl (by omega) (fun c => by first | exact absurd c (by omega) | exact c.elim | exact absurd c (by decide) | exact absurd (by assumption) c | exact absurd c (by assumption) | exact absurd c (Int32.not_le.mpr (by assumption))) (fun _ => ?_)
  refine ST.lift (fun _ _ k => T_iload_n d_PG_isOnWire_7 rfl k) ?_
  refine ST.lift (fun _ _ k => T_iconst (v := nI 1) d_PG_isOnWire_8 (by decide) k) ?_
  refine S_icmp_ltN d_PG_isOnWire_9 rfl (by omega) (by omega) (fun c => by first | exact absurd c (by omega) | exact c.elim | exact absurd c (by decide) | exact absurd (by assumption) c | exact absurd c (by assumption) | exact absurd c (Int32.not_le.mpr (by assumption))) (fun _ => ?_)
  refine ST.lift (fun _ _ k => T_iload_n d_PG_isOnWire_12 rfl k) ?_
  refine ST.lift (fun _ _ k => T_iconst (v := nI 3) d_PG_isOnWire_13 (by decide) k) ?_
  refine S_icmp_gtN d_PG_isOnWire_14 rfl (by omega) (by omega) (fun c => by first | exact absurd c (by omega) | exact c.elim | exact absurd c (by decide) | exact absurd (by assumption) c | exact absurd c (by assumption) | exact absurd c (Int32.not_le.mpr (by assumption))) (fun _ => ?_)
  refine ST.lift (fun _ _ k => T_aload_n (v := .ref 61) d_PG_isOnWire_17 rfl (Or.inr ⟨_, rfl⟩) k) ?_
  refine S_getfield d_PG_isOnWire_18 fg_PG_34 (w61 _) rfl ?_
  refine ST.lift (fun _ _ k => T_iload_n d_PG_isOnWire_21 rfl k) ?_
  refine S_aaload (C0 := "PasswordGate$Session") d_PG_isOnWire_22 (by decide) (w264 _) rfl (vp_in_nI (by omega) (by omega)) ?_
  refine S_getfield d_PG_isOnWire_23 fg_PG_158 (w265 _) rfl ?_
  refine ST.lift (fun _ _ k => T_iload_n d_PG_isOnWire_26 rfl k) ?_
  refine ST.lift (fun _ _ k => T_iconst (v := nI 1) d_PG_isOnWire_27 (by decide) k) ?_
  refine S_isubN d_PG_isOnWire_28 (by omega) ?_
  refine S_topi (y := nI 2) (by decide) ?_
  refine S_aaload (C0 := "PasswordGate$Bytes") d_PG_isOnWire_29 (by decide) (w266 _) rfl (vp_in_nI (by omega) (by omega)) ?_
  refine ST.lift (fun _ _ k => T_iload_n d_PG_isOnWire_30 rfl k) ?_
  refine S_virtual (as := [.int (nI i)]) (rest := []) (b := 283) d_PG_isOnWire_31 rfl (jw_By_has.jo (by decide)) lm_PG_119 ji_By_has js_By_has (w283 _) rfl rfl rfl (Nat.le_of_ble_eq_true rfl) (by decide) (by decide) (c_By_has_in G v 283 284 64 30 ⟨w283, a284, by decide, u283_1, by decide, by decide⟩ i (by omega) k e30 (by omega) hv) (fun r u1 hq => ?_)
  obtain ⟨hr, hv2, hm3, fe0_u1⟩ := hq
  rw [hr]
  clear hr r
  have hm4 := hm.go hm3 (by intro i hi; simp only [List.mem_cons, List.not_mem_nil, or_false] at hi ⊢ <;> omega)
  have e5 : u1 30 = nI k := (hm3 30 (by decide)).trans e30
  show ST G mi_PG_isOnWire 34 [(0, .ref 61), (1, .int (nI 0)), (2, .int (nI 3)), (3, .int (nI i))] [.int (nI 1)] u1 0 0 _
  refine S_if_eqN d_PG_isOnWire_34 rfl (by omega) (fun c => by first | exact absurd c (by omega) | exact c.elim | exact absurd c (by decide) | exact absurd (by assumption) c | exact absurd c (by assumption) | exact absurd c (Int32.not_le.mpr (by assumption))) (fun _ => ?_)
  refine ST.lift (fun _ _ k => T_iconst (v := nI 1) d_PG_isOnWire_37 (by decide) k) ?_
  refine ST.lift (fun _ _ k => T_goto (tgt := 42) d_PG_isOnWire_38 rfl k) ?_
  refine S_topi (y := nI 1) (congrArg nI (by omega)) ?_
  exact S_ret d_PG_isOnWire_42 rfl (nar_z (by omega)) (by decide) (by decide) (hQ _ hv2 hm4 (fe0_u1.trans (congrArg nI (by omega))))
set_option maxRecDepth 100000 in
set_option maxHeartbeats 4000000 in
theorem c_PG_wire_0_3_in (G : GX) (v : Nat → Int32) (i : Nat) (b_i : i < 2147483648) (k : Nat) (e30 : v 30 = nI k) (hk : i < k ∧ k ≤ 64) (hv : okv v) : CS G mi_PG_wire [.ref 61, .int (nI 0), .int (nI 3), .int (nI i)] v (fun r v' => ∃ z : Int32, r = some (.int z) ∧ okv v' ∧ mdf [] v v' ∧ v' 30 = nI k) := by
  refine CS.of (by decide) (Nat.le_of_ble_eq_true rfl) ?_
  generalize hQe : (fun (r : Option Value) (v' : Nat → Int32) => ∃ z : Int32, r = some (.int z) ∧ okv v' ∧ mdf [] v v' ∧ v' 30 = nI k) = Q
  have hQ : ∀ (z : Int32) (u : Nat → Int32), okv u → mdf [] v u → u 30 = nI k → Q (some (.int z)) u := by rw [← hQe]; exact fun z u h1 h2 f0 => ⟨z, rfl, h1, h2, f0⟩
  clear hQe
  have hm : mdf [] v v := mdf.rf
  show ST G mi_PG_wire 0 [(0, .ref 61), (1, .int (nI 0)), (2, .int (nI 3)), (3, .int (nI i))] [] v 0 0 Q
  refine ST.lift (fun _ _ k => T_aload_n (v := .ref 61) d_PG_wire_0 rfl (Or.inr ⟨_, rfl⟩) k) ?_
  refine ST.lift (fun _ _ k => T_iload_n d_PG_wire_1 rfl k) ?_
  refine ST.lift (fun _ _ k => T_iload_n d_PG_wire_2 rfl k) ?_
  refine ST.lift (fun _ _ k => T_iload_n d_PG_wire_3 rfl k) ?_
  refine S_virtual (as := [.int (nI 0), .int (nI 3), .int (nI i)]) (rest := []) (b := 61) d_PG_wire_4 rfl (jw_PG_isOnWire.jo (by decide)) lm_PG_154 ji_PG_isOnWire js_PG_isOnWire (w61 _) rfl rfl rfl (Nat.le_of_ble_eq_true rfl) (by decide) (by decide) (c_PG_isOnWire_0_3_in G v i (by omega) k e30 (by omega) hv) (fun r u1 hq => ?_)
  obtain ⟨hr, hv2, hm3, fe0_u1⟩ := hq
  rw [hr]
  clear hr r
  have hm4 := hm.go hm3 (by intro i hi; simp only [List.mem_cons, List.not_mem_nil, or_false] at hi ⊢ <;> omega)
  have e5 : u1 30 = nI k := (hm3 30 (by decide)).trans e30
  show ST G mi_PG_wire 7 [(0, .ref 61), (1, .int (nI 0)), (2, .int (nI 3)), (3, .int (nI i))] [.int (nI 1)] u1 0 0 _
  refine S_if_neN d_PG_wire_7 rfl (by omega) (fun _ => ?_) (fun c => by first | exact absurd c (by omega) | exact c.elim | exact absurd c (by decide) | exact absurd (by assumption) c | exact absurd c (by assumption) | exact absurd c (Int32.not_le.mpr (by assumption)))
  refine ST.lift (fun _ _ k => T_aload_n (v := .ref 61) d_PG_wire_18 rfl (Or.inr ⟨_, rfl⟩) k) ?_
  refine S_getfield d_PG_wire_19 fg_PG_34 (w61 _) rfl ?_
  refine ST.lift (fun _ _ k => T_iload_n d_PG_wire_22 rfl k) ?_
  refine S_aaload (C0 := "PasswordGate$Session") d_PG_wire_23 (by decide) (w264 _) rfl (vp_in_nI (by omega) (by omega)) ?_
  refine S_getfield d_PG_wire_24 fg_PG_158 (w265 _) rfl ?_
  refine ST.lift (fun _ _ k => T_iload_n d_PG_wire_27 rfl k) ?_
  refine ST.lift (fun _ _ k => T_iconst (v := nI 1) d_PG_wire_28 (by decide) k) ?_
  refine S_isubN d_PG_wire_29 (by omega) ?_
  refine S_topi (y := nI 2) (by decide) ?_
  refine S_aaload (C0 := "PasswordGate$Bytes") d_PG_wire_30 (by decide) (w266 _) rfl (vp_in_nI (by omega) (by omega)) ?_
  refine S_getfield d_PG_wire_31 fg_PG_93 (w283 _) rfl ?_
  refine ST.lift (fun _ _ k => T_iload_n d_PG_wire_34 rfl k) ?_
  refine S_baload d_PG_wire_35 a284 (vp_in_nI (by omega) (by omega)) (fun z6 hz6 => ?_)
  refine ST.lift (fun _ _ k => T_sipush (v := nI 255) d_PG_wire_36 (by decide) k) ?_
  refine S_iandM 8 d_PG_wire_39 (by decide) (by decide) (fun j7 hj7 => ?_)
  simp only [Nat.reducePow] at hj7
  exact S_ret d_PG_wire_40 rfl rfl (by decide) (by decide) (hQ _ _ hv2 hm4 (fe0_u1.trans (congrArg nI (by omega))))
set_option maxRecDepth 100000 in
set_option maxHeartbeats 4000000 in
theorem c_PG_key_0_0_in (G : GX) (v : Nat → Int32) (i : Nat) (b_i : i < 2147483648) (k : Nat) (e31 : v 31 = nI k) (hk : i < k ∧ k ≤ 64) (hv : okv v) : CS G mi_PG_key [.ref 61, .int (nI 0), .int (nI 0), .int (nI i)] v (fun r v' => ∃ z : Int32, r = some (.int z) ∧ okv v' ∧ mdf [] v v' ∧ v' 31 = nI k) := by
  refine CS.of (by decide) (Nat.le_of_ble_eq_true rfl) ?_
  generalize hQe : (fun (r : Option Value) (v' : Nat → Int32) => ∃ z : Int32, r = some (.int z) ∧ okv v' ∧ mdf [] v v' ∧ v' 31 = nI k) = Q
  have hQ : ∀ (z : Int32) (u : Nat → Int32), okv u → mdf [] v u → u 31 = nI k → Q (some (.int z)) u := by rw [← hQe]; exact fun z u h1 h2 f0 => ⟨z, rfl, h1, h2, f0⟩
  clear hQe
  have hm : mdf [] v v := mdf.rf
  show ST G mi_PG_key 0 [(0, .ref 61), (1, .int (nI 0)), (2, .int (nI 0)), (3, .int (nI i))] [] v 0 0 Q
  refine ST.lift (fun _ _ k => T_iload_n d_PG_key_0 rfl k) ?_
  refine S_static (as := [.int (nI 0)]) (rest := []) d_PG_key_1 rfl (jw_PG_isSession.jo (by decide)) lm_PG_133 jt_PG_isSession rfl (Nat.le_of_ble_eq_true rfl) (by decide) (by decide) (c_PG_isSession G v 0 (by omega)) (fun r v' hq => ?_)
  rw [hq.1, hq.2]
  clear hq r v'
  show ST G mi_PG_key 4 [(0, .ref 61), (1, .int (nI 0)), (2, .int (nI 0)), (3, .int (nI i))] [.int (nI 1)] v 0 0 _
  refine S_if_eqN d_PG_key_4 rfl (by omega) (fun c => by first | exact absurd c (by omega) | exact c.elim | exact absurd c (by decide) | exact absurd (by assumption) c | exact absurd c (by assumption) | exact absurd c (Int32.not_le.mpr (by assumption))) (fun _ => ?_)
  refine ST.lift (fun _ _ k => T_iload_n d_PG_key_7 rfl k) ?_
  refine S_if_ltN d_PG_key_8 rfl (by omega) (fun c => by first | exact absurd c (by omega) | exact c.elim | exact absurd c (by decide) | exact absurd (by assumption) c | exact absurd c (by assumption) | exact absurd c (Int32.not_le.mpr (by assumption))) (fun _ => ?_)
  refine ST.lift (fun _ _ k => T_iload_n d_PG_key_11 rfl k) ?_
  refine ST.lift (fun _ _ k => T_iconst (v := nI 2) d_PG_key_12 (by decide) k) ?_
  refine S_icmp_gtN d_PG_key_13 rfl (by omega) (by omega) (fun c => by first | exact absurd c (by omega) | exact c.elim | exact absurd c (by decide) | exact absurd (by assumption) c | exact absurd c (by assumption) | exact absurd c (Int32.not_le.mpr (by assumption))) (fun _ => ?_)
  refine ST.lift (fun _ _ k => T_aload_n (v := .ref 61) d_PG_key_16 rfl (Or.inr ⟨_, rfl⟩) k) ?_
  refine S_getfield d_PG_key_17 fg_PG_34 (w61 _) rfl ?_
  refine ST.lift (fun _ _ k => T_iload_n d_PG_key_20 rfl k) ?_
  refine S_aaload (C0 := "PasswordGate$Session") d_PG_key_21 (by decide) (w264 _) rfl (vp_in_nI (by omega) (by omega)) ?_
  refine S_getfield d_PG_key_22 fg_PG_162 (w265 _) rfl ?_
  refine ST.lift (fun _ _ k => T_iload_n d_PG_key_25 rfl k) ?_
  refine S_aaload (C0 := "PasswordGate$Bytes") d_PG_key_26 (by decide) (w267 _) rfl (vp_in_nI (by omega) (by omega)) ?_
  refine ST.lift (fun _ _ k => T_iload_n d_PG_key_27 rfl k) ?_
  refine S_virtual (as := [.int (nI i)]) (rest := []) (b := 285) d_PG_key_28 rfl (jw_By_has.jo (by decide)) lm_PG_119 ji_By_has js_By_has (w285 _) rfl rfl rfl (Nat.le_of_ble_eq_true rfl) (by decide) (by decide) (c_By_has_in G v 285 286 64 31 ⟨w285, a286, by decide, u285_1, by decide, by decide⟩ i (by omega) k e31 (by omega) hv) (fun r u1 hq => ?_)
  obtain ⟨hr, hv2, hm3, fe0_u1⟩ := hq
  rw [hr]
  clear hr r
  have hm4 := hm.go hm3 (by intro i hi; simp only [List.mem_cons, List.not_mem_nil, or_false] at hi ⊢ <;> omega)
  have e5 : u1 31 = nI k := (hm3 31 (by decide)).trans e31
  show ST G mi_PG_key 31 [(0, .ref 61), (1, .int (nI 0)), (2, .int (nI 0)), (3, .int (nI i))] [.int (nI 1)] u1 0 0 _
  refine S_if_neN d_PG_key_31 rfl (by omega) (fun _ => ?_) (fun c => by first | exact absurd c (by omega) | exact c.elim | exact absurd c (by decide) | exact absurd (by assumption) c | exact absurd c (by assumption) | exact absurd c (Int32.not_le.mpr (by assumption)))
  refine ST.lift (fun _ _ k => T_aload_n (v := .ref 61) d_PG_key_42 rfl (Or.inr ⟨_, rfl⟩) k) ?_
  refine S_getfield d_PG_key_43 fg_PG_34 (w61 _) rfl ?_
  refine ST.lift (fun _ _ k => T_iload_n d_PG_key_46 rfl k) ?_
  refine S_aaload (C0 := "PasswordGate$Session") d_PG_key_47 (by decide) (w264 _) rfl (vp_in_nI (by omega) (by omega)) ?_
  refine S_getfield d_PG_key_48 fg_PG_162 (w265 _) rfl ?_
  refine ST.lift (fun _ _ k => T_iload_n d_PG_key_51 rfl k) ?_
  refine S_aaload (C0 := "PasswordGate$Bytes") d_PG_key_52 (by decide) (w267 _) rfl (vp_in_nI (by omega) (by omega)) ?_
  refine S_getfield d_PG_key_53 fg_PG_93 (w285 _) rfl ?_
  refine ST.lift (fun _ _ k => T_iload_n d_PG_key_56 rfl k) ?_
  refine S_baload d_PG_key_57 a286 (vp_in_nI (by omega) (by omega)) (fun z6 hz6 => ?_)
  refine ST.lift (fun _ _ k => T_sipush (v := nI 255) d_PG_key_58 (by decide) k) ?_
  refine S_iandM 8 d_PG_key_61 (by decide) (by decide) (fun j7 hj7 => ?_)
  simp only [Nat.reducePow] at hj7
  exact S_ret d_PG_key_62 rfl rfl (by decide) (by decide) (hQ _ _ hv2 hm4 (fe0_u1.trans (congrArg nI (by omega))))
set_option maxRecDepth 100000 in
set_option maxHeartbeats 4000000 in
theorem c_PG_key_0_1_in (G : GX) (v : Nat → Int32) (i : Nat) (b_i : i < 2147483648) (k : Nat) (e32 : v 32 = nI k) (hk : i < k ∧ k ≤ 64) (hv : okv v) : CS G mi_PG_key [.ref 61, .int (nI 0), .int (nI 1), .int (nI i)] v (fun r v' => ∃ z : Int32, r = some (.int z) ∧ okv v' ∧ mdf [] v v' ∧ v' 32 = nI k) := by
  refine CS.of (by decide) (Nat.le_of_ble_eq_true rfl) ?_
  generalize hQe : (fun (r : Option Value) (v' : Nat → Int32) => ∃ z : Int32, r = some (.int z) ∧ okv v' ∧ mdf [] v v' ∧ v' 32 = nI k) = Q
  have hQ : ∀ (z : Int32) (u : Nat → Int32), okv u → mdf [] v u → u 32 = nI k → Q (some (.int z)) u := by rw [← hQe]; exact fun z u h1 h2 f0 => ⟨z, rfl, h1, h2, f0⟩
  clear hQe
  have hm : mdf [] v v := mdf.rf
  show ST G mi_PG_key 0 [(0, .ref 61), (1, .int (nI 0)), (2, .int (nI 1)), (3, .int (nI i))] [] v 0 0 Q
  refine ST.lift (fun _ _ k => T_iload_n d_PG_key_0 rfl k) ?_
  refine S_static (as := [.int (nI 0)]) (rest := []) d_PG_key_1 rfl (jw_PG_isSession.jo (by decide)) lm_PG_133 jt_PG_isSession rfl (Nat.le_of_ble_eq_true rfl) (by decide) (by decide) (c_PG_isSession G v 0 (by omega)) (fun r v' hq => ?_)
  rw [hq.1, hq.2]
  clear hq r v'
  show ST G mi_PG_key 4 [(0, .ref 61), (1, .int (nI 0)), (2, .int (nI 1)), (3, .int (nI i))] [.int (nI 1)] v 0 0 _
  refine S_if_eqN d_PG_key_4 rfl (by omega) (fun c => by first | exact absurd c (by omega) | exact c.elim | exact absurd c (by decide) | exact absurd (by assumption) c | exact absurd c (by assumption) | exact absurd c (Int32.not_le.mpr (by assumption))) (fun _ => ?_)
  refine ST.lift (fun _ _ k => T_iload_n d_PG_key_7 rfl k) ?_
  refine S_if_ltN d_PG_key_8 rfl (by omega) (fun c => by first | exact absurd c (by omega) | exact c.elim | exact absurd c (by decide) | exact absurd (by assumption) c | exact absurd c (by assumption) | exact absurd c (Int32.not_le.mpr (by assumption))) (fun _ => ?_)
  refine ST.lift (fun _ _ k => T_iload_n d_PG_key_11 rfl k) ?_
  refine ST.lift (fun _ _ k => T_iconst (v := nI 2) d_PG_key_12 (by decide) k) ?_
  refine S_icmp_gtN d_PG_key_13 rfl (by omega) (by omega) (fun c => by first | exact absurd c (by omega) | exact c.elim | exact absurd c (by decide) | exact absurd (by assumption) c | exact absurd c (by assumption) | exact absurd c (Int32.not_le.mpr (by assumption))) (fun _ => ?_)
  refine ST.lift (fun _ _ k => T_aload_n (v := .ref 61) d_PG_key_16 rfl (Or.inr ⟨_, rfl⟩) k) ?_
  refine S_getfield d_PG_key_17 fg_PG_34 (w61 _) rfl ?_
  refine ST.lift (fun _ _ k => T_iload_n d_PG_key_20 rfl k) ?_
  refine S_aaload (C0 := "PasswordGate$Session") d_PG_key_21 (by decide) (w264 _) rfl (vp_in_nI (by omega) (by omega)) ?_
  refine S_getfield d_PG_key_22 fg_PG_162 (w265 _) rfl ?_
  refine ST.lift (fun _ _ k => T_iload_n d_PG_key_25 rfl k) ?_
  refine S_aaload (C0 := "PasswordGate$Bytes") d_PG_key_26 (by decide) (w267 _) rfl (vp_in_nI (by omega) (by omega)) ?_
  refine ST.lift (fun _ _ k => T_iload_n d_PG_key_27 rfl k) ?_
  refine S_virtual (as := [.int (nI i)]) (rest := []) (b := 287) d_PG_key_28 rfl (jw_By_has.jo (by decide)) lm_PG_119 ji_By_has js_By_has (w287 _) rfl rfl rfl (Nat.le_of_ble_eq_true rfl) (by decide) (by decide) (c_By_has_in G v 287 288 64 32 ⟨w287, a288, by decide, u287_1, by decide, by decide⟩ i (by omega) k e32 (by omega) hv) (fun r u1 hq => ?_)
  obtain ⟨hr, hv2, hm3, fe0_u1⟩ := hq
  rw [hr]
  clear hr r
  have hm4 := hm.go hm3 (by intro i hi; simp only [List.mem_cons, List.not_mem_nil, or_false] at hi ⊢ <;> omega)
  have e5 : u1 32 = nI k := (hm3 32 (by decide)).trans e32
  show ST G mi_PG_key 31 [(0, .ref 61), (1, .int (nI 0)), (2, .int (nI 1)), (3, .int (nI i))] [.int (nI 1)] u1 0 0 _
  refine S_if_neN d_PG_key_31 rfl (by omega) (fun _ => ?_) (fun c => by first | exact absurd c (by omega) | exact c.elim | exact absurd c (by decide) | exact absurd (by assumption) c | exact absurd c (by assumption) | exact absurd c (Int32.not_le.mpr (by assumption)))
  refine ST.lift (fun _ _ k => T_aload_n (v := .ref 61) d_PG_key_42 rfl (Or.inr ⟨_, rfl⟩) k) ?_
  refine S_getfield d_PG_key_43 fg_PG_34 (w61 _) rfl ?_
  refine ST.lift (fun _ _ k => T_iload_n d_PG_key_46 rfl k) ?_
  refine S_aaload (C0 := "PasswordGate$Session") d_PG_key_47 (by decide) (w264 _) rfl (vp_in_nI (by omega) (by omega)) ?_
  refine S_getfield d_PG_key_48 fg_PG_162 (w265 _) rfl ?_
  refine ST.lift (fun _ _ k => T_iload_n d_PG_key_51 rfl k) ?_
  refine S_aaload (C0 := "PasswordGate$Bytes") d_PG_key_52 (by decide) (w267 _) rfl (vp_in_nI (by omega) (by omega)) ?_
  refine S_getfield d_PG_key_53 fg_PG_93 (w287 _) rfl ?_
  refine ST.lift (fun _ _ k => T_iload_n d_PG_key_56 rfl k) ?_
  refine S_baload d_PG_key_57 a288 (vp_in_nI (by omega) (by omega)) (fun z6 hz6 => ?_)
  refine ST.lift (fun _ _ k => T_sipush (v := nI 255) d_PG_key_58 (by decide) k) ?_
  refine S_iandM 8 d_PG_key_61 (by decide) (by decide) (fun j7 hj7 => ?_)
  simp only [Nat.reducePow] at hj7
  exact S_ret d_PG_key_62 rfl rfl (by decide) (by decide) (hQ _ _ hv2 hm4 (fe0_u1.trans (congrArg nI (by omega))))
set_option maxRecDepth 100000 in
set_option maxHeartbeats 4000000 in
theorem c_PG_key_0_2_in (G : GX) (v : Nat → Int32) (i : Nat) (b_i : i < 2147483648) (k : Nat) (e33 : v 33 = nI k) (hk : i < k ∧ k ≤ 64) (hv : okv v) : CS G mi_PG_key [.ref 61, .int (nI 0), .int (nI 2), .int (nI i)] v (fun r v' => ∃ z : Int32, r = some (.int z) ∧ okv v' ∧ mdf [] v v' ∧ v' 33 = nI k) := by
  refine CS.of (by decide) (Nat.le_of_ble_eq_true rfl) ?_
  generalize hQe : (fun (r : Option Value) (v' : Nat → Int32) => ∃ z : Int32, r = some (.int z) ∧ okv v' ∧ mdf [] v v' ∧ v' 33 = nI k) = Q
  have hQ : ∀ (z : Int32) (u : Nat → Int32), okv u → mdf [] v u → u 33 = nI k → Q (some (.int z)) u := by rw [← hQe]; exact fun z u h1 h2 f0 => ⟨z, rfl, h1, h2, f0⟩
  clear hQe
  have hm : mdf [] v v := mdf.rf
  show ST G mi_PG_key 0 [(0, .ref 61), (1, .int (nI 0)), (2, .int (nI 2)), (3, .int (nI i))] [] v 0 0 Q
  refine ST.lift (fun _ _ k => T_iload_n d_PG_key_0 rfl k) ?_
  refine S_static (as := [.int (nI 0)]) (rest := []) d_PG_key_1 rfl (jw_PG_isSession.jo (by decide)) lm_PG_133 jt_PG_isSession rfl (Nat.le_of_ble_eq_true rfl) (by decide) (by decide) (c_PG_isSession G v 0 (by omega)) (fun r v' hq => ?_)
  rw [hq.1, hq.2]
  clear hq r v'
  show ST G mi_PG_key 4 [(0, .ref 61), (1, .int (nI 0)), (2, .int (nI 2)), (3, .int (nI i))] [.int (nI 1)] v 0 0 _
  refine S_if_eqN d_PG_key_4 rfl (by omega) (fun c => by first | exact absurd c (by omega) | exact c.elim | exact absurd c (by decide) | exact absurd (by assumption) c | exact absurd c (by assumption) | exact absurd c (Int32.not_le.mpr (by assumption))) (fun _ => ?_)
  refine ST.lift (fun _ _ k => T_iload_n d_PG_key_7 rfl k) ?_
  refine S_if_ltN d_PG_key_8 rfl (by omega) (fun c => by first | exact absurd c (by omega) | exact c.elim | exact absurd c (by decide) | exact absurd (by assumption) c | exact absurd c (by assumption) | exact absurd c (Int32.not_le.mpr (by assumption))) (fun _ => ?_)
  refine ST.lift (fun _ _ k => T_iload_n d_PG_key_11 rfl k) ?_
  refine ST.lift (fun _ _ k => T_iconst (v := nI 2) d_PG_key_12 (by decide) k) ?_
  refine S_icmp_gtN d_PG_key_13 rfl (by omega) (by omega) (fun c => by first | exact absurd c (by omega) | exact c.elim | exact absurd c (by decide) | exact absurd (by assumption) c | exact absurd c (by assumption) | exact absurd c (Int32.not_le.mpr (by assumption))) (fun _ => ?_)
  refine ST.lift (fun _ _ k => T_aload_n (v := .ref 61) d_PG_key_16 rfl (Or.inr ⟨_, rfl⟩) k) ?_
  refine S_getfield d_PG_key_17 fg_PG_34 (w61 _) rfl ?_
  refine ST.lift (fun _ _ k => T_iload_n d_PG_key_20 rfl k) ?_
  refine S_aaload (C0 := "PasswordGate$Session") d_PG_key_21 (by decide) (w264 _) rfl (vp_in_nI (by omega) (by omega)) ?_
  refine S_getfield d_PG_key_22 fg_PG_162 (w265 _) rfl ?_
  refine ST.lift (fun _ _ k => T_iload_n d_PG_key_25 rfl k) ?_
  refine S_aaload (C0 := "PasswordGate$Bytes") d_PG_key_26 (by decide) (w267 _) rfl (vp_in_nI (by omega) (by omega)) ?_
  refine ST.lift (fun _ _ k => T_iload_n d_PG_key_27 rfl k) ?_
  refine S_virtual (as := [.int (nI i)]) (rest := []) (b := 289) d_PG_key_28 rfl (jw_By_has.jo (by decide)) lm_PG_119 ji_By_has js_By_has (w289 _) rfl rfl rfl (Nat.le_of_ble_eq_true rfl) (by decide) (by decide) (c_By_has_in G v 289 290 64 33 ⟨w289, a290, by decide, u289_1, by decide, by decide⟩ i (by omega) k e33 (by omega) hv) (fun r u1 hq => ?_)
  obtain ⟨hr, hv2, hm3, fe0_u1⟩ := hq
  rw [hr]
  clear hr r
  have hm4 := hm.go hm3 (by intro i hi; simp only [List.mem_cons, List.not_mem_nil, or_false] at hi ⊢ <;> omega)
  have e5 : u1 33 = nI k := (hm3 33 (by decide)).trans e33
  show ST G mi_PG_key 31 [(0, .ref 61), (1, .int (nI 0)), (2, .int (nI 2)), (3, .int (nI i))] [.int (nI 1)] u1 0 0 _
  refine S_if_neN d_PG_key_31 rfl (by omega) (fun _ => ?_) (fun c => by first | exact absurd c (by omega) | exact c.elim | exact absurd c (by decide) | exact absurd (by assumption) c | exact absurd c (by assumption) | exact absurd c (Int32.not_le.mpr (by assumption)))
  refine ST.lift (fun _ _ k => T_aload_n (v := .ref 61) d_PG_key_42 rfl (Or.inr ⟨_, rfl⟩) k) ?_
  refine S_getfield d_PG_key_43 fg_PG_34 (w61 _) rfl ?_
  refine ST.lift (fun _ _ k => T_iload_n d_PG_key_46 rfl k) ?_
  refine S_aaload (C0 := "PasswordGate$Session") d_PG_key_47 (by decide) (w264 _) rfl (vp_in_nI (by omega) (by omega)) ?_
  refine S_getfield d_PG_key_48 fg_PG_162 (w265 _) rfl ?_
  refine ST.lift (fun _ _ k => T_iload_n d_PG_key_51 rfl k) ?_
  refine S_aaload (C0 := "PasswordGate$Bytes") d_PG_key_52 (by decide) (w267 _) rfl (vp_in_nI (by omega) (by omega)) ?_
  refine S_getfield d_PG_key_53 fg_PG_93 (w289 _) rfl ?_
  refine ST.lift (fun _ _ k => T_iload_n d_PG_key_56 rfl k) ?_
  refine S_baload d_PG_key_57 a290 (vp_in_nI (by omega) (by omega)) (fun z6 hz6 => ?_)
  refine ST.lift (fun _ _ k => T_sipush (v := nI 255) d_PG_key_58 (by decide) k) ?_
  refine S_iandM 8 d_PG_key_61 (by decide) (by decide) (fun j7 hj7 => ?_)
  simp only [Nat.reducePow] at hj7
  exact S_ret d_PG_key_62 rfl rfl (by decide) (by decide) (hQ _ _ hv2 hm4 (fe0_u1.trans (congrArg nI (by omega))))
set_option maxRecDepth 100000 in
set_option maxHeartbeats 4000000 in
theorem c_PG_isOnWire_1_mlt (G : GX) (v : Nat → Int32) (y : Int32) (z : Int32) (hy_m : y < nI 1) (hv : okv v) : CS G mi_PG_isOnWire [.ref 61, .int (nI 1), .int y, .int z] v (fun r v' => r = some (.int (nI 0)) ∧ okv v' ∧ mdf [] v v') := by
  refine CS.of (by decide) (Nat.le_of_ble_eq_true rfl) ?_
  generalize hQe : (fun (r : Option Value) (v' : Nat → Int32) => r = some (.int (nI 0)) ∧ okv v' ∧ mdf [] v v') = Q
  have hQ : ∀ u, okv u → mdf [] v u → Q (some (.int (nI 0))) u := by rw [← hQe]; exact fun u h1 h2  => ⟨rfl, h1, h2⟩
  clear hQe
  have hm : mdf [] v v := mdf.rf
  show ST G mi_PG_isOnWire 0 [(0, .ref 61), (1, .int (nI 1)), (2, .int y), (3, .int z)] [] v 0 0 Q
  refine ST.lift (fun _ _ k => T_iload_n d_PG_isOnWire_0 rfl k) ?_
  refine S_static (as := [.int (nI 1)]) (rest := []) d_PG_isOnWire_1 rfl (jw_PG_isSession.jo (by decide)) lm_PG_133 jt_PG_isSession rfl (Nat.le_of_ble_eq_true rfl) (by decide) (by decide) (c_PG_isSession G v 1 (by omega)) (fun r v' hq => ?_)
  rw [hq.1, hq.2]
  clear hq r v'
  show ST G mi_PG_isOnWire 4 [(0, .ref 61), (1, .int (nI 1)), (2, .int y), (3, .int z)] [.int (nI 1)] v 0 0 _
  refine S_if_eqN d_PG_isOnWire_4 rfl (by omega) (fun c => by first | exact absurd c (by omega) | exact c.elim | exact absurd c (by decide) | exact absurd (by assumption) c | exact absurd c (by assumption) | exact absurd c (Int32.not_le.mpr (by assumption))) (fun _ => ?_)
  refine ST.lift (fun _ _ k => T_iload_n d_PG_isOnWire_7 rfl k) ?_
  refine ST.lift (fun _ _ k => T_iconst (v := nI 1) d_PG_isOnWire_8 (by decide) k) ?_
  refine S_icmp_lt d_PG_isOnWire_9 rfl (fun _ => ?_) (fun c => by first | exact absurd c (by omega) | exact c.elim | exact absurd c (by decide) | exact absurd (by assumption) c | exact absurd c (by assumption) | exact absurd c (Int32.not_le.mpr (by assumption)))
  refine ST.lift (fun _ _ k => T_iconst (v := nI 0) d_PG_isOnWire_41 (by decide) k) ?_
  refine S_topi (y := nI 0) (congrArg nI (by omega)) ?_
  exact S_ret d_PG_isOnWire_42 rfl (nar_z (by omega)) (by decide) (by decide) (hQ _ hv hm)
set_option maxRecDepth 100000 in
set_option maxHeartbeats 4000000 in
theorem c_PG_tamper_1_mlt (G : GX) (v : Nat → Int32) (y : Int32) (z : Int32) (mask : Int32) (hy_m : y < nI 1) (hv : okv v) : CS G mi_PG_tamper [.ref 61, .int (nI 1), .int y, .int z, .int mask] v (fun r v' => r = some (.int (nI 0)) ∧ okv v' ∧ mdf [] v v') := by
  refine CS.of (by decide) (Nat.le_of_ble_eq_true rfl) ?_
  generalize hQe : (fun (r : Option Value) (v' : Nat → Int32) => r = some (.int (nI 0)) ∧ okv v' ∧ mdf [] v v') = Q
  have hQ : ∀ u, okv u → mdf [] v u → Q (some (.int (nI 0))) u := by rw [← hQe]; exact fun u h1 h2  => ⟨rfl, h1, h2⟩
  clear hQe
  have hm : mdf [] v v := mdf.rf
  show ST G mi_PG_tamper 0 [(0, .ref 61), (1, .int (nI 1)), (2, .int y), (3, .int z), (4, .int mask)] [] v 0 0 Q
  refine ST.lift (fun _ _ k => T_aload_n (v := .ref 61) d_PG_tamper_0 rfl (Or.inr ⟨_, rfl⟩) k) ?_
  refine ST.lift (fun _ _ k => T_iload_n d_PG_tamper_1 rfl k) ?_
  refine ST.lift (fun _ _ k => T_iload_n d_PG_tamper_2 rfl k) ?_
  refine ST.lift (fun _ _ k => T_iload_n d_PG_tamper_3 rfl k) ?_
  refine S_virtual (as := [.int (nI 1), .int y, .int z]) (rest := []) (b := 61) d_PG_tamper_4 rfl (jw_PG_isOnWire.jo (by decide)) lm_PG_154 ji_PG_isOnWire js_PG_isOnWire (w61 _) rfl rfl rfl (Nat.le_of_ble_eq_true rfl) (by decide) (by decide) (c_PG_isOnWire_1_mlt G v y z hy_m hv) (fun r u1 hq => ?_)
  obtain ⟨hr, hv2, hm3⟩ := hq
  rw [hr]
  clear hr r
  have hm4 := hm.go hm3 (by intro i hi; simp only [List.mem_cons, List.not_mem_nil, or_false] at hi ⊢ <;> omega)
  show ST G mi_PG_tamper 7 [(0, .ref 61), (1, .int (nI 1)), (2, .int y), (3, .int z), (4, .int mask)] [.int (nI 0)] u1 0 0 _
  refine S_if_neN d_PG_tamper_7 rfl (by omega) (fun c => by first | exact absurd c (by omega) | exact c.elim | exact absurd c (by decide) | exact absurd (by assumption) c | exact absurd c (by assumption) | exact absurd c (Int32.not_le.mpr (by assumption))) (fun _ => ?_)
  refine ST.lift (fun _ _ k => T_iconst (v := nI 0) d_PG_tamper_10 (by decide) k) ?_
  refine S_topi (y := nI 0) (congrArg nI (by omega)) ?_
  exact S_ret d_PG_tamper_11 rfl (nar_z (by omega)) (by decide) (by decide) (hQ _ hv2 hm4)
set_option maxRecDepth 100000 in
set_option maxHeartbeats 4000000 in
theorem c_PG_isOnWire_1_mgt (G : GX) (v : Nat → Int32) (y : Int32) (z : Int32) (h0_m : ¬ y < nI 1) (hy_m : nI 3 < y) (hv : okv v) : CS G mi_PG_isOnWire [.ref 61, .int (nI 1), .int y, .int z] v (fun r v' => r = some (.int (nI 0)) ∧ okv v' ∧ mdf [] v v') := by
  refine CS.of (by decide) (Nat.le_of_ble_eq_true rfl) ?_
  generalize hQe : (fun (r : Option Value) (v' : Nat → Int32) => r = some (.int (nI 0)) ∧ okv v' ∧ mdf [] v v') = Q
  have hQ : ∀ u, okv u → mdf [] v u → Q (some (.int (nI 0))) u := by rw [← hQe]; exact fun u h1 h2  => ⟨rfl, h1, h2⟩
  clear hQe
  have hm : mdf [] v v := mdf.rf
  show ST G mi_PG_isOnWire 0 [(0, .ref 61), (1, .int (nI 1)), (2, .int y), (3, .int z)] [] v 0 0 Q
  refine ST.lift (fun _ _ k => T_iload_n d_PG_isOnWire_0 rfl k) ?_
  refine S_static (as := [.int (nI 1)]) (rest := []) d_PG_isOnWire_1 rfl (jw_PG_isSession.jo (by decide)) lm_PG_133 jt_PG_isSession rfl (Nat.le_of_ble_eq_true rfl) (by decide) (by decide) (c_PG_isSession G v 1 (by omega)) (fun r v' hq => ?_)
  rw [hq.1, hq.2]
  clear hq r v'
  show ST G mi_PG_isOnWire 4 [(0, .ref 61), (1, .int (nI 1)), (2, .int y), (3, .int z)] [.int (nI 1)] v 0 0 _
  refine S_if_eqN d_PG_isOnWire_4 rfl (by omega) (fun c => by first | exact absurd c (by omega) | exact c.elim | exact absurd c (by decide) | exact absurd (by assumption) c | exact absurd c (by assumption) | exact absurd c (Int32.not_le.mpr (by assumption))) (fun _ => ?_)
  refine ST.lift (fun _ _ k => T_iload_n d_PG_isOnWire_7 rfl k) ?_
  refine ST.lift (fun _ _ k => T_iconst (v := nI 1) d_PG_isOnWire_8 (by decide) k) ?_
  refine S_icmp_lt d_PG_isOnWire_9 rfl (fun c => by first | exact absurd c (by omega) | exact c.elim | exact absurd c (by decide) | exact absurd (by assumption) c | exact absurd c (by assumption) | exact absurd c (Int32.not_le.mpr (by assumption))) (fun _ => ?_)
  refine ST.lift (fun _ _ k => T_iload_n d_PG_isOnWire_12 rfl k) ?_
  refine ST.lift (fun _ _ k => T_iconst (v := nI 3) d_PG_isOnWire_13 (by decide) k) ?_
  refine S_icmp_gt d_PG_isOnWire_14 rfl (fun _ => ?_) (fun c => by first | exact absurd c (by omega) | exact c.elim | exact absurd c (by decide) | exact absurd (by assumption) c | exact absurd c (by assumption) | exact absurd c (Int32.not_le.mpr (by assumption)))
  refine ST.lift (fun _ _ k => T_iconst (v := nI 0) d_PG_isOnWire_41 (by decide) k) ?_
  refine S_topi (y := nI 0) (congrArg nI (by omega)) ?_
  exact S_ret d_PG_isOnWire_42 rfl (nar_z (by omega)) (by decide) (by decide) (hQ _ hv hm)
set_option maxRecDepth 100000 in
set_option maxHeartbeats 4000000 in
theorem c_PG_tamper_1_mgt (G : GX) (v : Nat → Int32) (y : Int32) (z : Int32) (mask : Int32) (h0_m : ¬ y < nI 1) (hy_m : nI 3 < y) (hv : okv v) : CS G mi_PG_tamper [.ref 61, .int (nI 1), .int y, .int z, .int mask] v (fun r v' => r = some (.int (nI 0)) ∧ okv v' ∧ mdf [] v v') := by
  refine CS.of (by decide) (Nat.le_of_ble_eq_true rfl) ?_
  generalize hQe : (fun (r : Option Value) (v' : Nat → Int32) => r = some (.int (nI 0)) ∧ okv v' ∧ mdf [] v v') = Q
  have hQ : ∀ u, okv u → mdf [] v u → Q (some (.int (nI 0))) u := by rw [← hQe]; exact fun u h1 h2  => ⟨rfl, h1, h2⟩
  clear hQe
  have hm : mdf [] v v := mdf.rf
  show ST G mi_PG_tamper 0 [(0, .ref 61), (1, .int (nI 1)), (2, .int y), (3, .int z), (4, .int mask)] [] v 0 0 Q
  refine ST.lift (fun _ _ k => T_aload_n (v := .ref 61) d_PG_tamper_0 rfl (Or.inr ⟨_, rfl⟩) k) ?_
  refine ST.lift (fun _ _ k => T_iload_n d_PG_tamper_1 rfl k) ?_
  refine ST.lift (fun _ _ k => T_iload_n d_PG_tamper_2 rfl k) ?_
  refine ST.lift (fun _ _ k => T_iload_n d_PG_tamper_3 rfl k) ?_
  refine S_virtual (as := [.int (nI 1), .int y, .int z]) (rest := []) (b := 61) d_PG_tamper_4 rfl (jw_PG_isOnWire.jo (by decide)) lm_PG_154 ji_PG_isOnWire js_PG_isOnWire (w61 _) rfl rfl rfl (Nat.le_of_ble_eq_true rfl) (by decide) (by decide) (c_PG_isOnWire_1_mgt G v y z h0_m hy_m hv) (fun r u1 hq => ?_)
  obtain ⟨hr, hv2, hm3⟩ := hq
  rw [hr]
  clear hr r
  have hm4 := hm.go hm3 (by intro i hi; simp only [List.mem_cons, List.not_mem_nil, or_false] at hi ⊢ <;> omega)
  show ST G mi_PG_tamper 7 [(0, .ref 61), (1, .int (nI 1)), (2, .int y), (3, .int z), (4, .int mask)] [.int (nI 0)] u1 0 0 _
  refine S_if_neN d_PG_tamper_7 rfl (by omega) (fun c => by first | exact absurd c (by omega) | exact c.elim | exact absurd c (by decide) | exact absurd (by assumption) c | exact absurd c (by assumption) | exact absurd c (Int32.not_le.mpr (by assumption))) (fun _ => ?_)
  refine ST.lift (fun _ _ k => T_iconst (v := nI 0) d_PG_tamper_10 (by decide) k) ?_
  refine S_topi (y := nI 0) (congrArg nI (by omega)) ?_
  exact S_ret d_PG_tamper_11 rfl (nar_z (by omega)) (by decide) (by decide) (hQ _ hv2 hm4)
set_option maxRecDepth 100000 in
set_option maxHeartbeats 4000000 in
theorem c_PG_isOnWire_1_1_neg (G : GX) (v : Nat → Int32) (z : Int32) (hz_n : z < 0) (hv : okv v) : CS G mi_PG_isOnWire [.ref 61, .int (nI 1), .int (nI 1), .int z] v (fun r v' => r = some (.int (nI 0)) ∧ okv v' ∧ mdf [] v v') := by
  refine CS.of (by decide) (Nat.le_of_ble_eq_true rfl) ?_
  generalize hQe : (fun (r : Option Value) (v' : Nat → Int32) => r = some (.int (nI 0)) ∧ okv v' ∧ mdf [] v v') = Q
  have hQ : ∀ u, okv u → mdf [] v u → Q (some (.int (nI 0))) u := by rw [← hQe]; exact fun u h1 h2  => ⟨rfl, h1, h2⟩
  clear hQe
  have hm : mdf [] v v := mdf.rf
  show ST G mi_PG_isOnWire 0 [(0, .ref 61), (1, .int (nI 1)), (2, .int (nI 1)), (3, .int z)] [] v 0 0 Q
  refine ST.lift (fun _ _ k => T_iload_n d_PG_isOnWire_0 rfl k) ?_
  refine S_static (as := [.int (nI 1)]) (rest := []) d_PG_isOnWire_1 rfl (jw_PG_isSession.jo (by decide)) lm_PG_133 jt_PG_isSession rfl (Nat.le_of_ble_eq_true rfl) (by decide) (by decide) (c_PG_isSession G v 1 (by omega)) (fun r v' hq => ?_)
  rw [hq.1, hq.2]
  clear hq r v'
  show ST G mi_PG_isOnWire 4 [(0, .ref 61), (1, .int (nI 1)), (2, .int (nI 1)), (3, .int z)] [.int (nI 1)] v 0 0 _
  refine S_if_eqN d_PG_isOnWire_4 rfl (by omega) (fun c => by first | exact absurd c (by omega) | exact c.elim | exact absurd c (by decide) | exact absurd (by assumption) c | exact absurd c (by assumption) | exact absurd c (Int32.not_le.mpr (by assumption))) (fun _ => ?_)
  refine ST.lift (fun _ _ k => T_iload_n d_PG_isOnWire_7 rfl k) ?_
  refine ST.lift (fun _ _ k => T_iconst (v := nI 1) d_PG_isOnWire_8 (by decide) k) ?_
  refine S_icmp_ltN d_PG_isOnWire_9 rfl (by omega) (by omega) (fun c => by first | exact absurd c (by omega) | exact c.elim | exact absurd c (by decide) | exact absurd (by assumption) c | exact absurd c (by assumption) | exact absurd c (Int32.not_le.mpr (by assumption))) (fun _ => ?_)
  refine ST.lift (fun _ _ k => T_iload_n d_PG_isOnWire_12 rfl k) ?_
  refine ST.lift (fun _ _ k => T_iconst (v := nI 3) d_PG_isOnWire_13 (by decide) k) ?_
  refine S_icmp_gtN d_PG_isOnWire_14 rfl (by omega) (by omega) (fun c => by first | exact absurd c (by omega) | exact c.elim | exact absurd c (by decide) | exact absurd (by assumption) c | exact absurd c (by assumption) | exact absurd c (Int32.not_le.mpr (by assumption))) (fun _ => ?_)
  refine ST.lift (fun _ _ k => T_aload_n (v := .ref 61) d_PG_isOnWire_17 rfl (Or.inr ⟨_, rfl⟩) k) ?_
  refine S_getfield d_PG_isOnWire_18 fg_PG_34 (w61 _) rfl ?_
  refine ST.lift (fun _ _ k => T_iload_n d_PG_isOnWire_21 rfl k) ?_
  refine S_aaload (C0 := "PasswordGate$Session") d_PG_isOnWire_22 (by decide) (w264 _) rfl (vp_in_nI (by omega) (by omega)) ?_
  refine S_getfield d_PG_isOnWire_23 fg_PG_158 (w291 _) rfl ?_
  refine ST.lift (fun _ _ k => T_iload_n d_PG_isOnWire_26 rfl k) ?_
  refine ST.lift (fun _ _ k => T_iconst (v := nI 1) d_PG_isOnWire_27 (by decide) k) ?_
  refine S_isubN d_PG_isOnWire_28 (by omega) ?_
  refine S_topi (y := nI 0) (by decide) ?_
  refine S_aaload (C0 := "PasswordGate$Bytes") d_PG_isOnWire_29 (by decide) (w292 _) rfl (vp_in_nI (by omega) (by omega)) ?_
  refine ST.lift (fun _ _ k => T_iload_n d_PG_isOnWire_30 rfl k) ?_
  refine S_virtual (as := [.int z]) (rest := []) (b := 305) d_PG_isOnWire_31 rfl (jw_By_has.jo (by decide)) lm_PG_119 ji_By_has js_By_has (w305 _) rfl rfl rfl (Nat.le_of_ble_eq_true rfl) (by decide) (by decide) (c_By_has_neg G v 305 306 96 38 ⟨w305, a306, by decide, u305_1, by decide, by decide⟩ z hz_n hv) (fun r u1 hq => ?_)
  obtain ⟨hr, hv2, hm3⟩ := hq
  rw [hr]
  clear hr r
  have hm4 := hm.go hm3 (by intro i hi; simp only [List.mem_cons, List.not_mem_nil, or_false] at hi ⊢ <;> omega)
  show ST G mi_PG_isOnWire 34 [(0, .ref 61), (1, .int (nI 1)), (2, .int (nI 1)), (3, .int z)] [.int (nI 0)] u1 0 0 _
  refine S_if_eqN d_PG_isOnWire_34 rfl (by omega) (fun _ => ?_) (fun c => by first | exact absurd c (by omega) | exact c.elim | exact absurd c (by decide) | exact absurd (by assumption) c | exact absurd c (by assumption) | exact absurd c (Int32.not_le.mpr (by assumption)))
  refine ST.lift (fun _ _ k => T_iconst (v := nI 0) d_PG_isOnWire_41 (by decide) k) ?_
  refine S_topi (y := nI 0) (congrArg nI (by omega)) ?_
  exact S_ret d_PG_isOnWire_42 rfl (nar_z (by omega)) (by decide) (by decide) (hQ _ hv2 hm4)
set_option maxRecDepth 100000 in
set_option maxHeartbeats 4000000 in
theorem c_PG_tamper_1_1_neg (G : GX) (v : Nat → Int32) (z : Int32) (mask : Int32) (hz_n : z < 0) (hv : okv v) : CS G mi_PG_tamper [.ref 61, .int (nI 1), .int (nI 1), .int z, .int mask] v (fun r v' => r = some (.int (nI 0)) ∧ okv v' ∧ mdf [] v v') := by
  refine CS.of (by decide) (Nat.le_of_ble_eq_true rfl) ?_
  generalize hQe : (fun (r : Option Value) (v' : Nat → Int32) => r = some (.int (nI 0)) ∧ okv v' ∧ mdf [] v v') = Q
  have hQ : ∀ u, okv u → mdf [] v u → Q (some (.int (nI 0))) u := by rw [← hQe]; exact fun u h1 h2  => ⟨rfl, h1, h2⟩
  clear hQe
  have hm : mdf [] v v := mdf.rf
  show ST G mi_PG_tamper 0 [(0, .ref 61), (1, .int (nI 1)), (2, .int (nI 1)), (3, .int z), (4, .int mask)] [] v 0 0 Q
  refine ST.lift (fun _ _ k => T_aload_n (v := .ref 61) d_PG_tamper_0 rfl (Or.inr ⟨_, rfl⟩) k) ?_
  refine ST.lift (fun _ _ k => T_iload_n d_PG_tamper_1 rfl k) ?_
  refine ST.lift (fun _ _ k => T_iload_n d_PG_tamper_2 rfl k) ?_
  refine ST.lift (fun _ _ k => T_iload_n d_PG_tamper_3 rfl k) ?_
  refine S_virtual (as := [.int (nI 1), .int (nI 1), .int z]) (rest := []) (b := 61) d_PG_tamper_4 rfl (jw_PG_isOnWire.jo (by decide)) lm_PG_154 ji_PG_isOnWire js_PG_isOnWire (w61 _) rfl rfl rfl (Nat.le_of_ble_eq_true rfl) (by decide) (by decide) (c_PG_isOnWire_1_1_neg G v z hz_n hv) (fun r u1 hq => ?_)
  obtain ⟨hr, hv2, hm3⟩ := hq
  rw [hr]
  clear hr r
  have hm4 := hm.go hm3 (by intro i hi; simp only [List.mem_cons, List.not_mem_nil, or_false] at hi ⊢ <;> omega)
  show ST G mi_PG_tamper 7 [(0, .ref 61), (1, .int (nI 1)), (2, .int (nI 1)), (3, .int z), (4, .int mask)] [.int (nI 0)] u1 0 0 _
  refine S_if_neN d_PG_tamper_7 rfl (by omega) (fun c => by first | exact absurd c (by omega) | exact c.elim | exact absurd c (by decide) | exact absurd (by assumption) c | exact absurd c (by assumption) | exact absurd c (Int32.not_le.mpr (by assumption))) (fun _ => ?_)
  refine ST.lift (fun _ _ k => T_iconst (v := nI 0) d_PG_tamper_10 (by decide) k) ?_
  refine S_topi (y := nI 0) (congrArg nI (by omega)) ?_
  exact S_ret d_PG_tamper_11 rfl (nar_z (by omega)) (by decide) (by decide) (hQ _ hv2 hm4)
set_option maxRecDepth 100000 in
set_option maxHeartbeats 4000000 in
theorem c_PG_isOnWire_1_1_out (G : GX) (v : Nat → Int32) (i : Nat) (b_i : i < 2147483648) (k : Nat) (e38 : v 38 = nI k) (hk : k ≤ i ∧ k ≤ 96) (hv : okv v) : CS G mi_PG_isOnWire [.ref 61, .int (nI 1), .int (nI 1), .int (nI i)] v (fun r v' => r = some (.int (nI 0)) ∧ okv v' ∧ mdf [] v v' ∧ v' 38 = nI k) := by
  refine CS.of (by decide) (Nat.le_of_ble_eq_true rfl) ?_
  generalize hQe : (fun (r : Option Value) (v' : Nat → Int32) => r = some (.int (nI 0)) ∧ okv v' ∧ mdf [] v v' ∧ v' 38 = nI k) = Q
  have hQ : ∀ u, okv u → mdf [] v u → u 38 = nI k → Q (some (.int (nI 0))) u := by rw [← hQe]; exact fun u h1 h2 f0 => ⟨rfl, h1, h2, f0⟩
  clear hQe
  have hm : mdf [] v v := mdf.rf
  show ST G mi_PG_isOnWire 0 [(0, .ref 61), (1, .int (nI 1)), (2, .int (nI 1)), (3, .int (nI i))] [] v 0 0 Q
  refine ST.lift (fun _ _ k => T_iload_n d_PG_isOnWire_0 rfl k) ?_
  refine S_static (as := [.int (nI 1)]) (rest := []) d_PG_isOnWire_1 rfl (jw_PG_isSession.jo (by decide)) lm_PG_133 jt_PG_isSession rfl (Nat.le_of_ble_eq_true rfl) (by decide) (by decide) (c_PG_isSession G v 1 (by omega)) (fun r v' hq => ?_)
  rw [hq.1, hq.2]
  clear hq r v'
  show ST G mi_PG_isOnWire 4 [(0, .ref 61), (1, .int (nI 1)), (2, .int (nI 1)), (3, .int (nI i))] [.int (nI 1)] v 0 0 _
  refine S_if_eqN d_PG_isOnWire_4 rfl (by omega) (fun c => by first | exact absurd c (by omega) | exact c.elim | exact absurd c (by decide) | exact absurd (by assumption) c | exact absurd c (by assumption) | exact absurd c (Int32.not_le.mpr (by assumption))) (fun _ => ?_)
  refine ST.lift (fun _ _ k => T_iload_n d_PG_isOnWire_7 rfl k) ?_
  refine ST.lift (fun _ _ k => T_iconst (v := nI 1) d_PG_isOnWire_8 (by decide) k) ?_
  refine S_icmp_ltN d_PG_isOnWire_9 rfl (by omega) (by omega) (fun c => by first | exact absurd c (by omega) | exact c.elim | exact absurd c (by decide) | exact absurd (by assumption) c | exact absurd c (by assumption) | exact absurd c (Int32.not_le.mpr (by assumption))) (fun _ => ?_)
  refine ST.lift (fun _ _ k => T_iload_n d_PG_isOnWire_12 rfl k) ?_
  refine ST.lift (fun _ _ k => T_iconst (v := nI 3) d_PG_isOnWire_13 (by decide) k) ?_
  refine S_icmp_gtN d_PG_isOnWire_14 rfl (by omega) (by omega) (fun c => by first | exact absurd c (by omega) | exact c.elim | exact absurd c (by decide) | exact absurd (by assumption) c | exact absurd c (by assumption) | exact absurd c (Int32.not_le.mpr (by assumption))) (fun _ => ?_)
  refine ST.lift (fun _ _ k => T_aload_n (v := .ref 61) d_PG_isOnWire_17 rfl (Or.inr ⟨_, rfl⟩) k) ?_
  refine S_getfield d_PG_isOnWire_18 fg_PG_34 (w61 _) rfl ?_
  refine ST.lift (fun _ _ k => T_iload_n d_PG_isOnWire_21 rfl k) ?_
  refine S_aaload (C0 := "PasswordGate$Session") d_PG_isOnWire_22 (by decide) (w264 _) rfl (vp_in_nI (by omega) (by omega)) ?_
  refine S_getfield d_PG_isOnWire_23 fg_PG_158 (w291 _) rfl ?_
  refine ST.lift (fun _ _ k => T_iload_n d_PG_isOnWire_26 rfl k) ?_
  refine ST.lift (fun _ _ k => T_iconst (v := nI 1) d_PG_isOnWire_27 (by decide) k) ?_
  refine S_isubN d_PG_isOnWire_28 (by omega) ?_
  refine S_topi (y := nI 0) (by decide) ?_
  refine S_aaload (C0 := "PasswordGate$Bytes") d_PG_isOnWire_29 (by decide) (w292 _) rfl (vp_in_nI (by omega) (by omega)) ?_
  refine ST.lift (fun _ _ k => T_iload_n d_PG_isOnWire_30 rfl k) ?_
  refine S_virtual (as := [.int (nI i)]) (rest := []) (b := 305) d_PG_isOnWire_31 rfl (jw_By_has.jo (by decide)) lm_PG_119 ji_By_has js_By_has (w305 _) rfl rfl rfl (Nat.le_of_ble_eq_true rfl) (by decide) (by decide) (c_By_has_out G v 305 306 96 38 ⟨w305, a306, by decide, u305_1, by decide, by decide⟩ i (by omega) k e38 (by omega) hv) (fun r u1 hq => ?_)
  obtain ⟨hr, hv2, hm3, fe0_u1⟩ := hq
  rw [hr]
  clear hr r
  have hm4 := hm.go hm3 (by intro i hi; simp only [List.mem_cons, List.not_mem_nil, or_false] at hi ⊢ <;> omega)
  have e5 : u1 38 = nI k := (hm3 38 (by decide)).trans e38
  show ST G mi_PG_isOnWire 34 [(0, .ref 61), (1, .int (nI 1)), (2, .int (nI 1)), (3, .int (nI i))] [.int (nI 0)] u1 0 0 _
  refine S_if_eqN d_PG_isOnWire_34 rfl (by omega) (fun _ => ?_) (fun c => by first | exact absurd c (by omega) | exact c.elim | exact absurd c (by decide) | exact absurd (by assumption) c | exact absurd c (by assumption) | exact absurd c (Int32.not_le.mpr (by assumption)))
  refine ST.lift (fun _ _ k => T_iconst (v := nI 0) d_PG_isOnWire_41 (by decide) k) ?_
  refine S_topi (y := nI 0) (congrArg nI (by omega)) ?_
  exact S_ret d_PG_isOnWire_42 rfl (nar_z (by omega)) (by decide) (by decide) (hQ _ hv2 hm4 (fe0_u1.trans (congrArg nI (by omega))))
set_option maxRecDepth 100000 in
set_option maxHeartbeats 4000000 in
theorem c_PG_tamper_1_1_out (G : GX) (v : Nat → Int32) (i : Nat) (b_i : i < 2147483648) (mask : Int32) (k : Nat) (e38 : v 38 = nI k) (hk : k ≤ i ∧ k ≤ 96) (hv : okv v) : CS G mi_PG_tamper [.ref 61, .int (nI 1), .int (nI 1), .int (nI i), .int mask] v (fun r v' => r = some (.int (nI 0)) ∧ okv v' ∧ mdf [] v v' ∧ v' 38 = nI k) := by
  refine CS.of (by decide) (Nat.le_of_ble_eq_true rfl) ?_
  generalize hQe : (fun (r : Option Value) (v' : Nat → Int32) => r = some (.int (nI 0)) ∧ okv v' ∧ mdf [] v v' ∧ v' 38 = nI k) = Q
  have hQ : ∀ u, okv u → mdf [] v u → u 38 = nI k → Q (some (.int (nI 0))) u := by rw [← hQe]; exact fun u h1 h2 f0 => ⟨rfl, h1, h2, f0⟩
  clear hQe
  have hm : mdf [] v v := mdf.rf
  show ST G mi_PG_tamper 0 [(0, .ref 61), (1, .int (nI 1)), (2, .int (nI 1)), (3, .int (nI i)), (4, .int mask)] [] v 0 0 Q
  refine ST.lift (fun _ _ k => T_aload_n (v := .ref 61) d_PG_tamper_0 rfl (Or.inr ⟨_, rfl⟩) k) ?_
  refine ST.lift (fun _ _ k => T_iload_n d_PG_tamper_1 rfl k) ?_
  refine ST.lift (fun _ _ k => T_iload_n d_PG_tamper_2 rfl k) ?_
  refine ST.lift (fun _ _ k => T_iload_n d_PG_tamper_3 rfl k) ?_
  refine S_virtual (as := [.int (nI 1), .int (nI 1), .int (nI i)]) (rest := []) (b := 61) d_PG_tamper_4 rfl (jw_PG_isOnWire.jo (by decide)) lm_PG_154 ji_PG_isOnWire js_PG_isOnWire (w61 _) rfl rfl rfl (Nat.le_of_ble_eq_true rfl) (by decide) (by decide) (c_PG_isOnWire_1_1_out G v i (by omega) k e38 (by omega) hv) (fun r u1 hq => ?_)
  obtain ⟨hr, hv2, hm3, fe0_u1⟩ := hq
  rw [hr]
  clear hr r
  have hm4 := hm.go hm3 (by intro i hi; simp only [List.mem_cons, List.not_mem_nil, or_false] at hi ⊢ <;> omega)
  have e5 : u1 38 = nI k := (hm3 38 (by decide)).trans e38
  show ST G mi_PG_tamper 7 [(0, .ref 61), (1, .int (nI 1)), (2, .int (nI 1)), (3, .int (nI i)), (4, .int mask)] [.int (nI 0)] u1 0 0 _
  refine S_if_neN d_PG_tamper_7 rfl (by omega) (fun c => by first | exact absurd c (by omega) | exact c.elim | exact absurd c (by decide) | exact absurd (by assumption) c | exact absurd c (by assumption) | exact absurd c (Int32.not_le.mpr (by assumption))) (fun _ => ?_)
  refine ST.lift (fun _ _ k => T_iconst (v := nI 0) d_PG_tamper_10 (by decide) k) ?_
  refine S_topi (y := nI 0) (congrArg nI (by omega)) ?_
  exact S_ret d_PG_tamper_11 rfl (nar_z (by omega)) (by decide) (by decide) (hQ _ hv2 hm4 (fe0_u1.trans (congrArg nI (by omega))))
set_option maxRecDepth 100000 in
set_option maxHeartbeats 4000000 in
theorem c_PG_isOnWire_1_1_in (G : GX) (v : Nat → Int32) (i : Nat) (b_i : i < 2147483648) (k : Nat) (e38 : v 38 = nI k) (hk : i < k ∧ k ≤ 96) (hv : okv v) : CS G mi_PG_isOnWire [.ref 61, .int (nI 1), .int (nI 1), .int (nI i)] v (fun r v' => r = some (.int (nI 1)) ∧ okv v' ∧ mdf [] v v' ∧ v' 38 = nI k) := by
  refine CS.of (by decide) (Nat.le_of_ble_eq_true rfl) ?_
  generalize hQe : (fun (r : Option Value) (v' : Nat → Int32) => r = some (.int (nI 1)) ∧ okv v' ∧ mdf [] v v' ∧ v' 38 = nI k) = Q
  have hQ : ∀ u, okv u → mdf [] v u → u 38 = nI k → Q (some (.int (nI 1))) u := by rw [← hQe]; exact fun u h1 h2 f0 => ⟨rfl, h1, h2, f0⟩
  clear hQe
  have hm : mdf [] v v := mdf.rf
  show ST G mi_PG_isOnWire 0 [(0, .ref 61), (1, .int (nI 1)), (2, .int (nI 1)), (3, .int (nI i))] [] v 0 0 Q
  refine ST.lift (fun _ _ k => T_iload_n d_PG_isOnWire_0 rfl k) ?_
  refine S_static (as := [.int (nI 1)]) (rest := []) d_PG_isOnWire_1 rfl (jw_PG_isSession.jo (by decide)) lm_PG_133 jt_PG_isSession rfl (Nat.le_of_ble_eq_true rfl) (by decide) (by decide) (c_PG_isSession G v 1 (by omega)) (fun r v' hq => ?_)
  rw [hq.1, hq.2]
  clear hq r v'
  show ST G mi_PG_isOnWire 4 [(0, .ref 61), (1, .int (nI 1)), (2, .int (nI 1)), (3, .int (nI i))] [.int (nI 1)] v 0 0 _
  refine S_if_eqN d_PG_isOnWire_4 rfl (by omega) (fun c => by first | exact absurd c (by omega) | exact c.elim | exact absurd c (by decide) | exact absurd (by assumption) c | exact absurd c (by assumption) | exact absurd c (Int32.not_le.mpr (by assumption))) (fun _ => ?_)
  refine ST.lift (fun _ _ k => T_iload_n d_PG_isOnWire_7 rfl k) ?_
  refine ST.lift (fun _ _ k => T_iconst (v := nI 1) d_PG_isOnWire_8 (by decide) k) ?_
  refine S_icmp_ltN d_PG_isOnWire_9 rfl (by omega) (by omega) (fun c => by first | exact absurd c (by omega) | exact c.elim | exact absurd c (by decide) | exact absurd (by assumption) c | exact absurd c (by assumption) | exact absurd c (Int32.not_le.mpr (by assumption))) (fun _ => ?_)
  refine ST.lift (fun _ _ k => T_iload_n d_PG_isOnWire_12 rfl k) ?_
  refine ST.lift (fun _ _ k => T_iconst (v := nI 3) d_PG_isOnWire_13 (by decide) k) ?_
  refine S_icmp_gtN d_PG_isOnWire_14 rfl (by omega) (by omega) (fun c => by first | exact absurd c (by omega) | exact c.elim | exact absurd c (by decide) | exact absurd (by assumption) c | exact absurd c (by assumption) | exact absurd c (Int32.not_le.mpr (by assumption))) (fun _ => ?_)
  refine ST.lift (fun _ _ k => T_aload_n (v := .ref 61) d_PG_isOnWire_17 rfl (Or.inr ⟨_, rfl⟩) k) ?_
  refine S_getfield d_PG_isOnWire_18 fg_PG_34 (w61 _) rfl ?_
  refine ST.lift (fun _ _ k => T_iload_n d_PG_isOnWire_21 rfl k) ?_
  refine S_aaload (C0 := "PasswordGate$Session") d_PG_isOnWire_22 (by decide) (w264 _) rfl (vp_in_nI (by omega) (by omega)) ?_
  refine S_getfield d_PG_isOnWire_23 fg_PG_158 (w291 _) rfl ?_
  refine ST.lift (fun _ _ k => T_iload_n d_PG_isOnWire_26 rfl k) ?_
  refine ST.lift (fun _ _ k => T_iconst (v := nI 1) d_PG_isOnWire_27 (by decide) k) ?_
  refine S_isubN d_PG_isOnWire_28 (by omega) ?_
  refine S_topi (y := nI 0) (by decide) ?_
  refine S_aaload (C0 := "PasswordGate$Bytes") d_PG_isOnWire_29 (by decide) (w292 _) rfl (vp_in_nI (by omega) (by omega)) ?_
  refine ST.lift (fun _ _ k => T_iload_n d_PG_isOnWire_30 rfl k) ?_
  refine S_virtual (as := [.int (nI i)]) (rest := []) (b := 305) d_PG_isOnWire_31 rfl (jw_By_has.jo (by decide)) lm_PG_119 ji_By_has js_By_has (w305 _) rfl rfl rfl (Nat.le_of_ble_eq_true rfl) (by decide) (by decide) (c_By_has_in G v 305 306 96 38 ⟨w305, a306, by decide, u305_1, by decide, by decide⟩ i (by omega) k e38 (by omega) hv) (fun r u1 hq => ?_)
  obtain ⟨hr, hv2, hm3, fe0_u1⟩ := hq
  rw [hr]
  clear hr r
  have hm4 := hm.go hm3 (by intro i hi; simp only [List.mem_cons, List.not_mem_nil, or_false] at hi ⊢ <;> omega)
  have e5 : u1 38 = nI k := (hm3 38 (by decide)).trans e38
  show ST G mi_PG_isOnWire 34 [(0, .ref 61), (1, .int (nI 1)), (2, .int (nI 1)), (3, .int (nI i))] [.int (nI 1)] u1 0 0 _
  refine S_if_eqN d_PG_isOnWire_34 rfl (by omega) (fun c => by first | exact absurd c (by omega) | exact c.elim | exact absurd c (by decide) | exact absurd (by assumption) c | exact absurd c (by assumption) | exact absurd c (Int32.not_le.mpr (by assumption))) (fun _ => ?_)
  refine ST.lift (fun _ _ k => T_iconst (v := nI 1) d_PG_isOnWire_37 (by decide) k) ?_
  refine ST.lift (fun _ _ k => T_goto (tgt := 42) d_PG_isOnWire_38 rfl k) ?_
  refine S_topi (y := nI 1) (congrArg nI (by omega)) ?_
  exact S_ret d_PG_isOnWire_42 rfl (nar_z (by omega)) (by decide) (by decide) (hQ _ hv2 hm4 (fe0_u1.trans (congrArg nI (by omega))))
set_option maxRecDepth 100000 in
set_option maxHeartbeats 4000000 in
theorem c_PG_wire_1_1_in (G : GX) (v : Nat → Int32) (i : Nat) (b_i : i < 2147483648) (k : Nat) (e38 : v 38 = nI k) (hk : i < k ∧ k ≤ 96) (hv : okv v) : CS G mi_PG_wire [.ref 61, .int (nI 1), .int (nI 1), .int (nI i)] v (fun r v' => ∃ z : Int32, r = some (.int z) ∧ okv v' ∧ mdf [] v v' ∧ v' 38 = nI k) := by
  refine CS.of (by decide) (Nat.le_of_ble_eq_true rfl) ?_
  generalize hQe : (fun (r : Option Value) (v' : Nat → Int32) => ∃ z : Int32, r = some (.int z) ∧ okv v' ∧ mdf [] v v' ∧ v' 38 = nI k) = Q
  have hQ : ∀ (z : Int32) (u : Nat → Int32), okv u → mdf [] v u → u 38 = nI k → Q (some (.int z)) u := by rw [← hQe]; exact fun z u h1 h2 f0 => ⟨z, rfl, h1, h2, f0⟩
  clear hQe
  have hm : mdf [] v v := mdf.rf
  show ST G mi_PG_wire 0 [(0, .ref 61), (1, .int (nI 1)), (2, .int (nI 1)), (3, .int (nI i))] [] v 0 0 Q
  refine ST.lift (fun _ _ k => T_aload_n (v := .ref 61) d_PG_wire_0 rfl (Or.inr ⟨_, rfl⟩) k) ?_
  refine ST.lift (fun _ _ k => T_iload_n d_PG_wire_1 rfl k) ?_
  refine ST.lift (fun _ _ k => T_iload_n d_PG_wire_2 rfl k) ?_
  refine ST.lift (fun _ _ k => T_iload_n d_PG_wire_3 rfl k) ?_
  refine S_virtual (as := [.int (nI 1), .int (nI 1), .int (nI i)]) (rest := []) (b := 61) d_PG_wire_4 rfl (jw_PG_isOnWire.jo (by decide)) lm_PG_154 ji_PG_isOnWire js_PG_isOnWire (w61 _) rfl rfl rfl (Nat.le_of_ble_eq_true rfl) (by decide) (by decide) (c_PG_isOnWire_1_1_in G v i (by omega) k e38 (by omega) hv) (fun r u1 hq => ?_)
  obtain ⟨hr, hv2, hm3, fe0_u1⟩ := hq
  rw [hr]
  clear hr r
  have hm4 := hm.go hm3 (by intro i hi; simp only [List.mem_cons, List.not_mem_nil, or_false] at hi ⊢ <;> omega)
  have e5 : u1 38 = nI k := (hm3 38 (by decide)).trans e38
  show ST G mi_PG_wire 7 [(0, .ref 61), (1, .int (nI 1)), (2, .int (nI 1)), (3, .int (nI i))] [.int (nI 1)] u1 0 0 _
  refine S_if_neN d_PG_wire_7 rfl (by omega) (fun _ => ?_) (fun c => by first | exact absurd c (by omega) | exact c.elim | exact absurd c (by decide) | exact absurd (by assumption) c | exact absurd c (by assumption) | exact absurd c (Int32.not_le.mpr (by assumption)))
  refine ST.lift (fun _ _ k => T_aload_n (v := .ref 61) d_PG_wire_18 rfl (Or.inr ⟨_, rfl⟩) k) ?_
  refine S_getfield d_PG_wire_19 fg_PG_34 (w61 _) rfl ?_
  refine ST.lift (fun _ _ k => T_iload_n d_PG_wire_22 rfl k) ?_
  refine S_aaload (C0 := "PasswordGate$Session") d_PG_wire_23 (by decide) (w264 _) rfl (vp_in_nI (by omega) (by omega)) ?_
  refine S_getfield d_PG_wire_24 fg_PG_158 (w291 _) rfl ?_
  refine ST.lift (fun _ _ k => T_iload_n d_PG_wire_27 rfl k) ?_
  refine ST.lift (fun _ _ k => T_iconst (v := nI 1) d_PG_wire_28 (by decide) k) ?_
  refine S_isubN d_PG_wire_29 (by omega) ?_
  refine S_topi (y := nI 0) (by decide) ?_
  refine S_aaload (C0 := "PasswordGate$Bytes") d_PG_wire_30 (by decide) (w292 _) rfl (vp_in_nI (by omega) (by omega)) ?_
  refine S_getfield d_PG_wire_31 fg_PG_93 (w305 _) rfl ?_
  refine ST.lift (fun _ _ k => T_iload_n d_PG_wire_34 rfl k) ?_
  refine S_baload d_PG_wire_35 a306 (vp_in_nI (by omega) (by omega)) (fun z6 hz6 => ?_)
  refine ST.lift (fun _ _ k => T_sipush (v := nI 255) d_PG_wire_36 (by decide) k) ?_
  refine S_iandM 8 d_PG_wire_39 (by decide) (by decide) (fun j7 hj7 => ?_)
  simp only [Nat.reducePow] at hj7
  exact S_ret d_PG_wire_40 rfl rfl (by decide) (by decide) (hQ _ _ hv2 hm4 (fe0_u1.trans (congrArg nI (by omega))))
set_option maxRecDepth 100000 in
set_option maxHeartbeats 4000000 in
theorem c_PG_isOnWire_1_2_neg (G : GX) (v : Nat → Int32) (z : Int32) (hz_n : z < 0) (hv : okv v) : CS G mi_PG_isOnWire [.ref 61, .int (nI 1), .int (nI 2), .int z] v (fun r v' => r = some (.int (nI 0)) ∧ okv v' ∧ mdf [] v v') := by
  refine CS.of (by decide) (Nat.le_of_ble_eq_true rfl) ?_
  generalize hQe : (fun (r : Option Value) (v' : Nat → Int32) => r = some (.int (nI 0)) ∧ okv v' ∧ mdf [] v v') = Q
  have hQ : ∀ u, okv u → mdf [] v u → Q (some (.int (nI 0))) u := by rw [← hQe]; exact fun u h1 h2  => ⟨rfl, h1, h2⟩
  clear hQe
  have hm : mdf [] v v := mdf.rf
  show ST G mi_PG_isOnWire 0 [(0, .ref 61), (1, .int (nI 1)), (2, .int (nI 2)), (3, .int z)] [] v 0 0 Q
  refine ST.lift (fun _ _ k => T_iload_n d_PG_isOnWire_0 rfl k) ?_
  refine S_static (as := [.int (nI 1)]) (rest := []) d_PG_isOnWire_1 rfl (jw_PG_isSession.jo (by decide)) lm_PG_133 jt_PG_isSession rfl (Nat.le_of_ble_eq_true rfl) (by decide) (by decide) (c_PG_isSession G v 1 (by omega)) (fun r v' hq => ?_)
  rw [hq.1, hq.2]
  clear hq r v'
  show ST G mi_PG_isOnWire 4 [(0, .ref 61), (1, .int (nI 1)), (2, .int (nI 2)), (3, .int z)] [.int (nI 1)] v 0 0 _
  refine S_if_eqN d_PG_isOnWire_4 rfl (by omega) (fun c => by first | exact absurd c (by omega) | exact c.elim | exact absurd c (by decide) | exact absurd (by assumption) c | exact absurd c (by assumption) | exact absurd c (Int32.not_le.mpr (by assumption))) (fun _ => ?_)
  refine ST.lift (fun _ _ k => T_iload_n d_PG_isOnWire_7 rfl k) ?_
  refine ST.lift (fun _ _ k => T_iconst (v := nI 1) d_PG_isOnWire_8 (by decide) k) ?_
  refine S_icmp_ltN d_PG_isOnWire_9 rfl (by omega) (by omega) (fun c => by first | exact absurd c (by omega) | exact c.elim | exact absurd c (by decide) | exact absurd (by assumption) c | exact absurd c (by assumption) | exact absurd c (Int32.not_le.mpr (by assumption))) (fun _ => ?_)
  refine ST.lift (fun _ _ k => T_iload_n d_PG_isOnWire_12 rfl k) ?_
  refine ST.lift (fun _ _ k => T_iconst (v := nI 3) d_PG_isOnWire_13 (by decide) k) ?_
  refine S_icmp_gtN d_PG_isOnWire_14 rfl (by omega) (by omega) (fun c => by first | exact absurd c (by omega) | exact c.elim | exact absurd c (by decide) | exact absurd (by assumption) c | exact absurd c (by assumption) | exact absurd c (Int32.not_le.mpr (by assumption))) (fun _ => ?_)
  refine ST.lift (fun _ _ k => T_aload_n (v := .ref 61) d_PG_isOnWire_17 rfl (Or.inr ⟨_, rfl⟩) k) ?_
  refine S_getfield d_PG_isOnWire_18 fg_PG_34 (w61 _) rfl ?_
  refine ST.lift (fun _ _ k => T_iload_n d_PG_isOnWire_21 rfl k) ?_
  refine S_aaload (C0 := "PasswordGate$Session") d_PG_isOnWire_22 (by decide) (w264 _) rfl (vp_in_nI (by omega) (by omega)) ?_
  refine S_getfield d_PG_isOnWire_23 fg_PG_158 (w291 _) rfl ?_
  refine ST.lift (fun _ _ k => T_iload_n d_PG_isOnWire_26 rfl k) ?_
  refine ST.lift (fun _ _ k => T_iconst (v := nI 1) d_PG_isOnWire_27 (by decide) k) ?_
  refine S_isubN d_PG_isOnWire_28 (by omega) ?_
  refine S_topi (y := nI 1) (by decide) ?_
  refine S_aaload (C0 := "PasswordGate$Bytes") d_PG_isOnWire_29 (by decide) (w292 _) rfl (vp_in_nI (by omega) (by omega)) ?_
  refine ST.lift (fun _ _ k => T_iload_n d_PG_isOnWire_30 rfl k) ?_
  refine S_virtual (as := [.int z]) (rest := []) (b := 307) d_PG_isOnWire_31 rfl (jw_By_has.jo (by decide)) lm_PG_119 ji_By_has js_By_has (w307 _) rfl rfl rfl (Nat.le_of_ble_eq_true rfl) (by decide) (by decide) (c_By_has_neg G v 307 308 320 39 ⟨w307, a308, by decide, u307_1, by decide, by decide⟩ z hz_n hv) (fun r u1 hq => ?_)
  obtain ⟨hr, hv2, hm3⟩ := hq
  rw [hr]
  clear hr r
  have hm4 := hm.go hm3 (by intro i hi; simp only [List.mem_cons, List.not_mem_nil, or_false] at hi ⊢ <;> omega)
  show ST G mi_PG_isOnWire 34 [(0, .ref 61), (1, .int (nI 1)), (2, .int (nI 2)), (3, .int z)] [.int (nI 0)] u1 0 0 _
  refine S_if_eqN d_PG_isOnWire_34 rfl (by omega) (fun _ => ?_) (fun c => by first | exact absurd c (by omega) | exact c.elim | exact absurd c (by decide) | exact absurd (by assumption) c | exact absurd c (by assumption) | exact absurd c (Int32.not_le.mpr (by assumption)))
  refine ST.lift (fun _ _ k => T_iconst (v := nI 0) d_PG_isOnWire_41 (by decide) k) ?_
  refine S_topi (y := nI 0) (congrArg nI (by omega)) ?_
  exact S_ret d_PG_isOnWire_42 rfl (nar_z (by omega)) (by decide) (by decide) (hQ _ hv2 hm4)
set_option maxRecDepth 100000 in
set_option maxHeartbeats 4000000 in
theorem c_PG_tamper_1_2_neg (G : GX) (v : Nat → Int32) (z : Int32) (mask : Int32) (hz_n : z < 0) (hv : okv v) : CS G mi_PG_tamper [.ref 61, .int (nI 1), .int (nI 2), .int z, .int mask] v (fun r v' => r = some (.int (nI 0)) ∧ okv v' ∧ mdf [] v v') := by
  refine CS.of (by decide) (Nat.le_of_ble_eq_true rfl) ?_
  generalize hQe : (fun (r : Option Value) (v' : Nat → Int32) => r = some (.int (nI 0)) ∧ okv v' ∧ mdf [] v v') = Q
  have hQ : ∀ u, okv u → mdf [] v u → Q (some (.int (nI 0))) u := by rw [← hQe]; exact fun u h1 h2  => ⟨rfl, h1, h2⟩
  clear hQe
  have hm : mdf [] v v := mdf.rf
  show ST G mi_PG_tamper 0 [(0, .ref 61), (1, .int (nI 1)), (2, .int (nI 2)), (3, .int z), (4, .int mask)] [] v 0 0 Q
  refine ST.lift (fun _ _ k => T_aload_n (v := .ref 61) d_PG_tamper_0 rfl (Or.inr ⟨_, rfl⟩) k) ?_
  refine ST.lift (fun _ _ k => T_iload_n d_PG_tamper_1 rfl k) ?_
  refine ST.lift (fun _ _ k => T_iload_n d_PG_tamper_2 rfl k) ?_
  refine ST.lift (fun _ _ k => T_iload_n d_PG_tamper_3 rfl k) ?_
  refine S_virtual (as := [.int (nI 1), .int (nI 2), .int z]) (rest := []) (b := 61) d_PG_tamper_4 rfl (jw_PG_isOnWire.jo (by decide)) lm_PG_154 ji_PG_isOnWire js_PG_isOnWire (w61 _) rfl rfl rfl (Nat.le_of_ble_eq_true rfl) (by decide) (by decide) (c_PG_isOnWire_1_2_neg G v z hz_n hv) (fun r u1 hq => ?_)
  obtain ⟨hr, hv2, hm3⟩ := hq
  rw [hr]
  clear hr r
  have hm4 := hm.go hm3 (by intro i hi; simp only [List.mem_cons, List.not_mem_nil, or_false] at hi ⊢ <;> omega)
  show ST G mi_PG_tamper 7 [(0, .ref 61), (1, .int (nI 1)), (2, .int (nI 2)), (3, .int z), (4, .int mask)] [.int (nI 0)] u1 0 0 _
  refine S_if_neN d_PG_tamper_7 rfl (by omega) (fun c => by first | exact absurd c (by omega) | exact c.elim | exact absurd c (by decide) | exact absurd (by assumption) c | exact absurd c (by assumption) | exact absurd c (Int32.not_le.mpr (by assumption))) (fun _ => ?_)
  refine ST.lift (fun _ _ k => T_iconst (v := nI 0) d_PG_tamper_10 (by decide) k) ?_
  refine S_topi (y := nI 0) (congrArg nI (by omega)) ?_
  exact S_ret d_PG_tamper_11 rfl (nar_z (by omega)) (by decide) (by decide) (hQ _ hv2 hm4)
set_option maxRecDepth 100000 in
set_option maxHeartbeats 4000000 in
theorem c_PG_isOnWire_1_2_out (G : GX) (v : Nat → Int32) (i : Nat) (b_i : i < 2147483648) (k : Nat) (e39 : v 39 = nI k) (hk : k ≤ i ∧ k ≤ 320) (hv : okv v) : CS G mi_PG_isOnWire [.ref 61, .int (nI 1), .int (nI 2), .int (nI i)] v (fun r v' => r = some (.int (nI 0)) ∧ okv v' ∧ mdf [] v v' ∧ v' 39 = nI k) := by
  refine CS.of (by decide) (Nat.le_of_ble_eq_true rfl) ?_
  generalize hQe : (fun (r : Option Value) (v' : Nat → Int32) => r = some (.int (nI 0)) ∧ okv v' ∧ mdf [] v v' ∧ v' 39 = nI k) = Q
  have hQ : ∀ u, okv u → mdf [] v u → u 39 = nI k → Q (some (.int (nI 0))) u := by rw [← hQe]; exact fun u h1 h2 f0 => ⟨rfl, h1, h2, f0⟩
  clear hQe
  have hm : mdf [] v v := mdf.rf
  show ST G mi_PG_isOnWire 0 [(0, .ref 61), (1, .int (nI 1)), (2, .int (nI 2)), (3, .int (nI i))] [] v 0 0 Q
  refine ST.lift (fun _ _ k => T_iload_n d_PG_isOnWire_0 rfl k) ?_
  refine S_static (as := [.int (nI 1)]) (rest := []) d_PG_isOnWire_1 rfl (jw_PG_isSession.jo (by decide)) lm_PG_133 jt_PG_isSession rfl (Nat.le_of_ble_eq_true rfl) (by decide) (by decide) (c_PG_isSession G v 1 (by omega)) (fun r v' hq => ?_)
  rw [hq.1, hq.2]
  clear hq r v'
  show ST G mi_PG_isOnWire 4 [(0, .ref 61), (1, .int (nI 1)), (2, .int (nI 2)), (3, .int (nI i))] [.int (nI 1)] v 0 0 _
  refine S_if_eqN d_PG_isOnWire_4 rfl (by omega) (fun c => by first | exact absurd c (by omega) | exact c.elim | exact absurd c (by decide) | exact absurd (by assumption) c | exact absurd c (by assumption) | exact absurd c (Int32.not_le.mpr (by assumption))) (fun _ => ?_)
  refine ST.lift (fun _ _ k => T_iload_n d_PG_isOnWire_7 rfl k) ?_
  refine ST.lift (fun _ _ k => T_iconst (v := nI 1) d_PG_isOnWire_8 (by decide) k) ?_
  refine S_icmp_ltN d_PG_isOnWire_9 rfl (by omega) (by omega) (fun c => by first | exact absurd c (by omega) | exact c.elim | exact absurd c (by decide) | exact absurd (by assumption) c | exact absurd c (by assumption) | exact absurd c (Int32.not_le.mpr (by assumption))) (fun _ => ?_)
  refine ST.lift (fun _ _ k => T_iload_n d_PG_isOnWire_12 rfl k) ?_
  refine ST.lift (fun _ _ k => T_iconst (v := nI 3) d_PG_isOnWire_13 (by decide) k) ?_
  refine S_icmp_gtN d_PG_isOnWire_14 rfl (by omega) (by omega) (fun c => by first | exact absurd c (by omega) | exact c.elim | exact absurd c (by decide) | exact absurd (by assumption) c | exact absurd c (by assumption) | exact absurd c (Int32.not_le.mpr (by assumption))) (fun _ => ?_)
  refine ST.lift (fun _ _ k => T_aload_n (v := .ref 61) d_PG_isOnWire_17 rfl (Or.inr ⟨_, rfl⟩) k) ?_
  refine S_getfield d_PG_isOnWire_18 fg_PG_34 (w61 _) rfl ?_
  refine ST.lift (fun _ _ k => T_iload_n d_PG_isOnWire_21 rfl k) ?_
  refine S_aaload (C0 := "PasswordGate$Session") d_PG_isOnWire_22 (by decide) (w264 _) rfl (vp_in_nI (by omega) (by omega)) ?_
  refine S_getfield d_PG_isOnWire_23 fg_PG_158 (w291 _) rfl ?_
  refine ST.lift (fun _ _ k => T_iload_n d_PG_isOnWire_26 rfl k) ?_
  refine ST.lift (fun _ _ k => T_iconst (v := nI 1) d_PG_isOnWire_27 (by decide) k) ?_
  refine S_isubN d_PG_isOnWire_28 (by omega) ?_
  refine S_topi (y := nI 1) (by decide) ?_
  refine S_aaload (C0 := "PasswordGate$Bytes") d_PG_isOnWire_29 (by decide) (w292 _) rfl (vp_in_nI (by omega) (by omega)) ?_
  refine ST.lift (fun _ _ k => T_iload_n d_PG_isOnWire_30 rfl k) ?_
  refine S_virtual (as := [.int (nI i)]) (rest := []) (b := 307) d_PG_isOnWire_31 rfl (jw_By_has.jo (by decide)) lm_PG_119 ji_By_has js_By_has (w307 _) rfl rfl rfl (Nat.le_of_ble_eq_true rfl) (by decide) (by decide) (c_By_has_out G v 307 308 320 39 ⟨w307, a308, by decide, u307_1, by decide, by decide⟩ i (by omega) k e39 (by omega) hv) (fun r u1 hq => ?_)
  obtain ⟨hr, hv2, hm3, fe0_u1⟩ := hq
  rw [hr]
  clear hr r
  have hm4 := hm.go hm3 (by intro i hi; simp only [List.mem_cons, List.not_mem_nil, or_false] at hi ⊢ <;> omega)
  have e5 : u1 39 = nI k := (hm3 39 (by decide)).trans e39
  show ST G mi_PG_isOnWire 34 [(0, .ref 61), (1, .int (nI 1)), (2, .int (nI 2)), (3, .int (nI i))] [.int (nI 0)] u1 0 0 _
  refine S_if_eqN d_PG_isOnWire_34 rfl (by omega) (fun _ => ?_) (fun c => by first | exact absurd c (by omega) | exact c.elim | exact absurd c (by decide) | exact absurd (by assumption) c | exact absurd c (by assumption) | exact absurd c (Int32.not_le.mpr (by assumption)))
  refine ST.lift (fun _ _ k => T_iconst (v := nI 0) d_PG_isOnWire_41 (by decide) k) ?_
  refine S_topi (y := nI 0) (congrArg nI (by omega)) ?_
  exact S_ret d_PG_isOnWire_42 rfl (nar_z (by omega)) (by decide) (by decide) (hQ _ hv2 hm4 (fe0_u1.trans (congrArg nI (by omega))))
set_option maxRecDepth 100000 in
set_option maxHeartbeats 4000000 in
theorem c_PG_tamper_1_2_out (G : GX) (v : Nat → Int32) (i : Nat) (b_i : i < 2147483648) (mask : Int32) (k : Nat) (e39 : v 39 = nI k) (hk : k ≤ i ∧ k ≤ 320) (hv : okv v) : CS G mi_PG_tamper [.ref 61, .int (nI 1), .int (nI 2), .int (nI i), .int mask] v (fun r v' => r = some (.int (nI 0)) ∧ okv v' ∧ mdf [] v v' ∧ v' 39 = nI k) := by
  refine CS.of (by decide) (Nat.le_of_ble_eq_true rfl) ?_
  generalize hQe : (fun (r : Option Value) (v' : Nat → Int32) => r = some (.int (nI 0)) ∧ okv v' ∧ mdf [] v v' ∧ v' 39 = nI k) = Q
  have hQ : ∀ u, okv u → mdf [] v u → u 39 = nI k → Q (some (.int (nI 0))) u := by rw [← hQe]; exact fun u h1 h2 f0 => ⟨rfl, h1, h2, f0⟩
  clear hQe
  have hm : mdf [] v v := mdf.rf
  show ST G mi_PG_tamper 0 [(0, .ref 61), (1, .int (nI 1)), (2, .int (nI 2)), (3, .int (nI i)), (4, .int mask)] [] v 0 0 Q
  refine ST.lift (fun _ _ k => T_aload_n (v := .ref 61) d_PG_tamper_0 rfl (Or.inr ⟨_, rfl⟩) k) ?_
  refine ST.lift (fun _ _ k => T_iload_n d_PG_tamper_1 rfl k) ?_
  refine ST.lift (fun _ _ k => T_iload_n d_PG_tamper_2 rfl k) ?_
  refine ST.lift (fun _ _ k => T_iload_n d_PG_tamper_3 rfl k) ?_
  refine S_virtual (as := [.int (nI 1), .int (nI 2), .int (nI i)]) (rest := []) (b := 61) d_PG_tamper_4 rfl (jw_PG_isOnWire.jo (by decide)) lm_PG_154 ji_PG_isOnWire js_PG_isOnWire (w61 _) rfl rfl rfl (Nat.le_of_ble_eq_true rfl) (by decide) (by decide) (c_PG_isOnWire_1_2_out G v i (by omega) k e39 (by omega) hv) (fun r u1 hq => ?_)
  obtain ⟨hr, hv2, hm3, fe0_u1⟩ := hq
  rw [hr]
  clear hr r
  have hm4 := hm.go hm3 (by intro i hi; simp only [List.mem_cons, List.not_mem_nil, or_false] at hi ⊢ <;> omega)
  have e5 : u1 39 = nI k := (hm3 39 (by decide)).trans e39
  show ST G mi_PG_tamper 7 [(0, .ref 61), (1, .int (nI 1)), (2, .int (nI 2)), (3, .int (nI i)), (4, .int mask)] [.int (nI 0)] u1 0 0 _
  refine S_if_neN d_PG_tamper_7 rfl (by omega) (fun c => by first | exact absurd c (by omega) | exact c.elim | exact absurd c (by decide) | exact absurd (by assumption) c | exact absurd c (by assumption) | exact absurd c (Int32.not_le.mpr (by assumption))) (fun _ => ?_)
  refine ST.lift (fun _ _ k => T_iconst (v := nI 0) d_PG_tamper_10 (by decide) k) ?_
  refine S_topi (y := nI 0) (congrArg nI (by omega)) ?_
  exact S_ret d_PG_tamper_11 rfl (nar_z (by omega)) (by decide) (by decide) (hQ _ hv2 hm4 (fe0_u1.trans (congrArg nI (by omega))))
set_option maxRecDepth 100000 in
set_option maxHeartbeats 4000000 in
theorem c_PG_isOnWire_1_2_in (G : GX) (v : Nat → Int32) (i : Nat) (b_i : i < 2147483648) (k : Nat) (e39 : v 39 = nI k) (hk : i < k ∧ k ≤ 320) (hv : okv v) : CS G mi_PG_isOnWire [.ref 61, .int (nI 1), .int (nI 2), .int (nI i)] v (fun r v' => r = some (.int (nI 1)) ∧ okv v' ∧ mdf [] v v' ∧ v' 39 = nI k) := by
  refine CS.of (by decide) (Nat.le_of_ble_eq_true rfl) ?_
  generalize hQe : (fun (r : Option Value) (v' : Nat → Int32) => r = some (.int (nI 1)) ∧ okv v' ∧ mdf [] v v' ∧ v' 39 = nI k) = Q
  have hQ : ∀ u, okv u → mdf [] v u → u 39 = nI k → Q (some (.int (nI 1))) u := by rw [← hQe]; exact fun u h1 h2 f0 => ⟨rfl, h1, h2, f0⟩
  clear hQe
  have hm : mdf [] v v := mdf.rf
  show ST G mi_PG_isOnWire 0 [(0, .ref 61), (1, .int (nI 1)), (2, .int (nI 2)), (3, .int (nI i))] [] v 0 0 Q
  refine ST.lift (fun _ _ k => T_iload_n d_PG_isOnWire_0 rfl k) ?_
  refine S_static (as := [.int (nI 1)]) (rest := []) d_PG_isOnWire_1 rfl (jw_PG_isSession.jo (by decide)) lm_PG_133 jt_PG_isSession rfl (Nat.le_of_ble_eq_true rfl) (by decide) (by decide) (c_PG_isSession G v 1 (by omega)) (fun r v' hq => ?_)
  rw [hq.1, hq.2]
  clear hq r v'
  show ST G mi_PG_isOnWire 4 [(0, .ref 61), (1, .int (nI 1)), (2, .int (nI 2)), (3, .int (nI i))] [.int (nI 1)] v 0 0 _
  refine S_if_eqN d_PG_isOnWire_4 rfl (by omega) (fun c => by first | exact absurd c (by omega) | exact c.elim | exact absurd c (by decide) | exact absurd (by assumption) c | exact absurd c (by assumption) | exact absurd c (Int32.not_le.mpr (by assumption))) (fun _ => ?_)
  refine ST.lift (fun _ _ k => T_iload_n d_PG_isOnWire_7 rfl k) ?_
  refine ST.lift (fun _ _ k => T_iconst (v := nI 1) d_PG_isOnWire_8 (by decide) k) ?_
  refine S_icmp_ltN d_PG_isOnWire_9 rfl (by omega) (by omega) (fun c => by first | exact absurd c (by omega) | exact c.elim | exact absurd c (by decide) | exact absurd (by assumption) c | exact absurd c (by assumption) | exact absurd c (Int32.not_le.mpr (by assumption))) (fun _ => ?_)
  refine ST.lift (fun _ _ k => T_iload_n d_PG_isOnWire_12 rfl k) ?_
  refine ST.lift (fun _ _ k => T_iconst (v := nI 3) d_PG_isOnWire_13 (by decide) k) ?_
  refine S_icmp_gtN d_PG_isOnWire_14 rfl (by omega) (by omega) (fun c => by first | exact absurd c (by omega) | exact c.elim | exact absurd c (by decide) | exact absurd (by assumption) c | exact absurd c (by assumption) | exact absurd c (Int32.not_le.mpr (by assumption))) (fun _ => ?_)
  refine ST.lift (fun _ _ k => T_aload_n (v := .ref 61) d_PG_isOnWire_17 rfl (Or.inr ⟨_, rfl⟩) k) ?_
  refine S_getfield d_PG_isOnWire_18 fg_PG_34 (w61 _) rfl ?_
  refine ST.lift (fun _ _ k => T_iload_n d_PG_isOnWire_21 rfl k) ?_
  refine S_aaload (C0 := "PasswordGate$Session") d_PG_isOnWire_22 (by decide) (w264 _) rfl (vp_in_nI (by omega) (by omega)) ?_
  refine S_getfield d_PG_isOnWire_23 fg_PG_158 (w291 _) rfl ?_
  refine ST.lift (fun _ _ k => T_iload_n d_PG_isOnWire_26 rfl k) ?_
  refine ST.lift (fun _ _ k => T_iconst (v := nI 1) d_PG_isOnWire_27 (by decide) k) ?_
  refine S_isubN d_PG_isOnWire_28 (by omega) ?_
  refine S_topi (y := nI 1) (by decide) ?_
  refine S_aaload (C0 := "PasswordGate$Bytes") d_PG_isOnWire_29 (by decide) (w292 _) rfl (vp_in_nI (by omega) (by omega)) ?_
  refine ST.lift (fun _ _ k => T_iload_n d_PG_isOnWire_30 rfl k) ?_
  refine S_virtual (as := [.int (nI i)]) (rest := []) (b := 307) d_PG_isOnWire_31 rfl (jw_By_has.jo (by decide)) lm_PG_119 ji_By_has js_By_has (w307 _) rfl rfl rfl (Nat.le_of_ble_eq_true rfl) (by decide) (by decide) (c_By_has_in G v 307 308 320 39 ⟨w307, a308, by decide, u307_1, by decide, by decide⟩ i (by omega) k e39 (by omega) hv) (fun r u1 hq => ?_)
  obtain ⟨hr, hv2, hm3, fe0_u1⟩ := hq
  rw [hr]
  clear hr r
  have hm4 := hm.go hm3 (by intro i hi; simp only [List.mem_cons, List.not_mem_nil, or_false] at hi ⊢ <;> omega)
  have e5 : u1 39 = nI k := (hm3 39 (by decide)).trans e39
  show ST G mi_PG_isOnWire 34 [(0, .ref 61), (1, .int (nI 1)), (2, .int (nI 2)), (3, .int (nI i))] [.int (nI 1)] u1 0 0 _
  refine S_if_eqN d_PG_isOnWire_34 rfl (by omega) (fun c => by first | exact absurd c (by omega) | exact c.elim | exact absurd c (by decide) | exact absurd (by assumption) c | exact absurd c (by assumption) | exact absurd c (Int32.not_le.mpr (by assumption))) (fun _ => ?_)
  refine ST.lift (fun _ _ k => T_iconst (v := nI 1) d_PG_isOnWire_37 (by decide) k) ?_
  refine ST.lift (fun _ _ k => T_goto (tgt := 42) d_PG_isOnWire_38 rfl k) ?_
  refine S_topi (y := nI 1) (congrArg nI (by omega)) ?_
  exact S_ret d_PG_isOnWire_42 rfl (nar_z (by omega)) (by decide) (by decide) (hQ _ hv2 hm4 (fe0_u1.trans (congrArg nI (by omega))))
set_option maxRecDepth 100000 in
set_option maxHeartbeats 4000000 in
theorem c_PG_wire_1_2_in (G : GX) (v : Nat → Int32) (i : Nat) (b_i : i < 2147483648) (k : Nat) (e39 : v 39 = nI k) (hk : i < k ∧ k ≤ 320) (hv : okv v) : CS G mi_PG_wire [.ref 61, .int (nI 1), .int (nI 2), .int (nI i)] v (fun r v' => ∃ z : Int32, r = some (.int z) ∧ okv v' ∧ mdf [] v v' ∧ v' 39 = nI k) := by
  refine CS.of (by decide) (Nat.le_of_ble_eq_true rfl) ?_
  generalize hQe : (fun (r : Option Value) (v' : Nat → Int32) => ∃ z : Int32, r = some (.int z) ∧ okv v' ∧ mdf [] v v' ∧ v' 39 = nI k) = Q
  have hQ : ∀ (z : Int32) (u : Nat → Int32), okv u → mdf [] v u → u 39 = nI k → Q (some (.int z)) u := by rw [← hQe]; exact fun z u h1 h2 f0 => ⟨z, rfl, h1, h2, f0⟩
  clear hQe
  have hm : mdf [] v v := mdf.rf
  show ST G mi_PG_wire 0 [(0, .ref 61), (1, .int (nI 1)), (2, .int (nI 2)), (3, .int (nI i))] [] v 0 0 Q
  refine ST.lift (fun _ _ k => T_aload_n (v := .ref 61) d_PG_wire_0 rfl (Or.inr ⟨_, rfl⟩) k) ?_
  refine ST.lift (fun _ _ k => T_iload_n d_PG_wire_1 rfl k) ?_
  refine ST.lift (fun _ _ k => T_iload_n d_PG_wire_2 rfl k) ?_
  refine ST.lift (fun _ _ k => T_iload_n d_PG_wire_3 rfl k) ?_
  refine S_virtual (as := [.int (nI 1), .int (nI 2), .int (nI i)]) (rest := []) (b := 61) d_PG_wire_4 rfl (jw_PG_isOnWire.jo (by decide)) lm_PG_154 ji_PG_isOnWire js_PG_isOnWire (w61 _) rfl rfl rfl (Nat.le_of_ble_eq_true rfl) (by decide) (by decide) (c_PG_isOnWire_1_2_in G v i (by omega) k e39 (by omega) hv) (fun r u1 hq => ?_)
  obtain ⟨hr, hv2, hm3, fe0_u1⟩ := hq
  rw [hr]
  clear hr r
  have hm4 := hm.go hm3 (by intro i hi; simp only [List.mem_cons, List.not_mem_nil, or_false] at hi ⊢ <;> omega)
  have e5 : u1 39 = nI k := (hm3 39 (by decide)).trans e39
  show ST G mi_PG_wire 7 [(0, .ref 61), (1, .int (nI 1)), (2, .int (nI 2)), (3, .int (nI i))] [.int (nI 1)] u1 0 0 _
  refine S_if_neN d_PG_wire_7 rfl (by omega) (fun _ => ?_) (fun c => by first | exact absurd c (by omega) | exact c.elim | exact absurd c (by decide) | exact absurd (by assumption) c | exact absurd c (by assumption) | exact absurd c (Int32.not_le.mpr (by assumption)))
  refine ST.lift (fun _ _ k => T_aload_n (v := .ref 61) d_PG_wire_18 rfl (Or.inr ⟨_, rfl⟩) k) ?_
  refine S_getfield d_PG_wire_19 fg_PG_34 (w61 _) rfl ?_
  refine ST.lift (fun _ _ k => T_iload_n d_PG_wire_22 rfl k) ?_
  refine S_aaload (C0 := "PasswordGate$Session") d_PG_wire_23 (by decide) (w264 _) rfl (vp_in_nI (by omega) (by omega)) ?_
  refine S_getfield d_PG_wire_24 fg_PG_158 (w291 _) rfl ?_
  refine ST.lift (fun _ _ k => T_iload_n d_PG_wire_27 rfl k) ?_
  refine ST.lift (fun _ _ k => T_iconst (v := nI 1) d_PG_wire_28 (by decide) k) ?_
  refine S_isubN d_PG_wire_29 (by omega) ?_
  refine S_topi (y := nI 1) (by decide) ?_
  refine S_aaload (C0 := "PasswordGate$Bytes") d_PG_wire_30 (by decide) (w292 _) rfl (vp_in_nI (by omega) (by omega)) ?_
  refine S_getfield d_PG_wire_31 fg_PG_93 (w307 _) rfl ?_
  refine ST.lift (fun _ _ k => T_iload_n d_PG_wire_34 rfl k) ?_
  refine S_baload d_PG_wire_35 a308 (vp_in_nI (by omega) (by omega)) (fun z6 hz6 => ?_)
  refine ST.lift (fun _ _ k => T_sipush (v := nI 255) d_PG_wire_36 (by decide) k) ?_
  refine S_iandM 8 d_PG_wire_39 (by decide) (by decide) (fun j7 hj7 => ?_)
  simp only [Nat.reducePow] at hj7
  exact S_ret d_PG_wire_40 rfl rfl (by decide) (by decide) (hQ _ _ hv2 hm4 (fe0_u1.trans (congrArg nI (by omega))))
set_option maxRecDepth 100000 in
set_option maxHeartbeats 4000000 in
theorem c_PG_isOnWire_1_3_neg (G : GX) (v : Nat → Int32) (z : Int32) (hz_n : z < 0) (hv : okv v) : CS G mi_PG_isOnWire [.ref 61, .int (nI 1), .int (nI 3), .int z] v (fun r v' => r = some (.int (nI 0)) ∧ okv v' ∧ mdf [] v v') := by
  refine CS.of (by decide) (Nat.le_of_ble_eq_true rfl) ?_
  generalize hQe : (fun (r : Option Value) (v' : Nat → Int32) => r = some (.int (nI 0)) ∧ okv v' ∧ mdf [] v v') = Q
  have hQ : ∀ u, okv u → mdf [] v u → Q (some (.int (nI 0))) u := by rw [← hQe]; exact fun u h1 h2  => ⟨rfl, h1, h2⟩
  clear hQe
  have hm : mdf [] v v := mdf.rf
  show ST G mi_PG_isOnWire 0 [(0, .ref 61), (1, .int (nI 1)), (2, .int (nI 3)), (3, .int z)] [] v 0 0 Q
  refine ST.lift (fun _ _ k => T_iload_n d_PG_isOnWire_0 rfl k) ?_
  refine S_static (as := [.int (nI 1)]) (rest := []) d_PG_isOnWire_1 rfl (jw_PG_isSession.jo (by decide)) lm_PG_133 jt_PG_isSession rfl (Nat.le_of_ble_eq_true rfl) (by decide) (by decide) (c_PG_isSession G v 1 (by omega)) (fun r v' hq => ?_)
  rw [hq.1, hq.2]
  clear hq r v'
  show ST G mi_PG_isOnWire 4 [(0, .ref 61), (1, .int (nI 1)), (2, .int (nI 3)), (3, .int z)] [.int (nI 1)] v 0 0 _
  refine S_if_eqN d_PG_isOnWire_4 rfl (by omega) (fun c => by first | exact absurd c (by omega) | exact c.elim | exact absurd c (by decide) | exact absurd (by assumption) c | exact absurd c (by assumption) | exact absurd c (Int32.not_le.mpr (by assumption))) (fun _ => ?_)
  refine ST.lift (fun _ _ k => T_iload_n d_PG_isOnWire_7 rfl k) ?_
  refine ST.lift (fun _ _ k => T_iconst (v := nI 1) d_PG_isOnWire_8 (by decide) k) ?_
  refine S_icmp_ltN d_PG_isOnWire_9 rfl (by omega) (by omega) (fun c => by first | exact absurd c (by omega) | exact c.elim | exact absurd c (by decide) | exact absurd (by assumption) c | exact absurd c (by assumption) | exact absurd c (Int32.not_le.mpr (by assumption))) (fun _ => ?_)
  refine ST.lift (fun _ _ k => T_iload_n d_PG_isOnWire_12 rfl k) ?_
  refine ST.lift (fun _ _ k => T_iconst (v := nI 3) d_PG_isOnWire_13 (by decide) k) ?_
  refine S_icmp_gtN d_PG_isOnWire_14 rfl (by omega) (by omega) (fun c => by first | exact absurd c (by omega) | exact c.elim | exact absurd c (by decide) | exact absurd (by assumption) c | exact absurd c (by assumption) | exact absurd c (Int32.not_le.mpr (by assumption))) (fun _ => ?_)
  refine ST.lift (fun _ _ k => T_aload_n (v := .ref 61) d_PG_isOnWire_17 rfl (Or.inr ⟨_, rfl⟩) k) ?_
  refine S_getfield d_PG_isOnWire_18 fg_PG_34 (w61 _) rfl ?_
  refine ST.lift (fun _ _ k => T_iload_n d_PG_isOnWire_21 rfl k) ?_
  refine S_aaload (C0 := "PasswordGate$Session") d_PG_isOnWire_22 (by decide) (w264 _) rfl (vp_in_nI (by omega) (by omega)) ?_
  refine S_getfield d_PG_isOnWire_23 fg_PG_158 (w291 _) rfl ?_
  refine ST.lift (fun _ _ k => T_iload_n d_PG_isOnWire_26 rfl k) ?_
  refine ST.lift (fun _ _ k => T_iconst (v := nI 1) d_PG_isOnWire_27 (by decide) k) ?_
  refine S_isubN d_PG_isOnWire_28 (by omega) ?_
  refine S_topi (y := nI 2) (by decide) ?_
  refine S_aaload (C0 := "PasswordGate$Bytes") d_PG_isOnWire_29 (by decide) (w292 _) rfl (vp_in_nI (by omega) (by omega)) ?_
  refine ST.lift (fun _ _ k => T_iload_n d_PG_isOnWire_30 rfl k) ?_
  refine S_virtual (as := [.int z]) (rest := []) (b := 309) d_PG_isOnWire_31 rfl (jw_By_has.jo (by decide)) lm_PG_119 ji_By_has js_By_has (w309 _) rfl rfl rfl (Nat.le_of_ble_eq_true rfl) (by decide) (by decide) (c_By_has_neg G v 309 310 64 40 ⟨w309, a310, by decide, u309_1, by decide, by decide⟩ z hz_n hv) (fun r u1 hq => ?_)
  obtain ⟨hr, hv2, hm3⟩ := hq
  rw [hr]
  clear hr r
  have hm4 := hm.go hm3 (by intro i hi; simp only [List.mem_cons, List.not_mem_nil, or_false] at hi ⊢ <;> omega)
  show ST G mi_PG_isOnWire 34 [(0, .ref 61), (1, .int (nI 1)), (2, .int (nI 3)), (3, .int z)] [.int (nI 0)] u1 0 0 _
  refine S_if_eqN d_PG_isOnWire_34 rfl (by omega) (fun _ => ?_) (fun c => by first | exact absurd c (by omega) | exact c.elim | exact absurd c (by decide) | exact absurd (by assumption) c | exact absurd c (by assumption) | exact absurd c (Int32.not_le.mpr (by assumption)))
  refine ST.lift (fun _ _ k => T_iconst (v := nI 0) d_PG_isOnWire_41 (by decide) k) ?_
  refine S_topi (y := nI 0) (congrArg nI (by omega)) ?_
  exact S_ret d_PG_isOnWire_42 rfl (nar_z (by omega)) (by decide) (by decide) (hQ _ hv2 hm4)
set_option maxRecDepth 100000 in
set_option maxHeartbeats 4000000 in
theorem c_PG_tamper_1_3_neg (G : GX) (v : Nat → Int32) (z : Int32) (mask : Int32) (hz_n : z < 0) (hv : okv v) : CS G mi_PG_tamper [.ref 61, .int (nI 1), .int (nI 3), .int z, .int mask] v (fun r v' => r = some (.int (nI 0)) ∧ okv v' ∧ mdf [] v v') := by
  refine CS.of (by decide) (Nat.le_of_ble_eq_true rfl) ?_
  generalize hQe : (fun (r : Option Value) (v' : Nat → Int32) => r = some (.int (nI 0)) ∧ okv v' ∧ mdf [] v v') = Q
  have hQ : ∀ u, okv u → mdf [] v u → Q (some (.int (nI 0))) u := by rw [← hQe]; exact fun u h1 h2  => ⟨rfl, h1, h2⟩
  clear hQe
  have hm : mdf [] v v := mdf.rf
  show ST G mi_PG_tamper 0 [(0, .ref 61), (1, .int (nI 1)), (2, .int (nI 3)), (3, .int z), (4, .int mask)] [] v 0 0 Q
  refine ST.lift (fun _ _ k => T_aload_n (v := .ref 61) d_PG_tamper_0 rfl (Or.inr ⟨_, rfl⟩) k) ?_
  refine ST.lift (fun _ _ k => T_iload_n d_PG_tamper_1 rfl k) ?_
  refine ST.lift (fun _ _ k => T_iload_n d_PG_tamper_2 rfl k) ?_
  refine ST.lift (fun _ _ k => T_iload_n d_PG_tamper_3 rfl k) ?_
  refine S_virtual (as := [.int (nI 1), .int (nI 3), .int z]) (rest := []) (b := 61) d_PG_tamper_4 rfl (jw_PG_isOnWire.jo (by decide)) lm_PG_154 ji_PG_isOnWire js_PG_isOnWire (w61 _) rfl rfl rfl (Nat.le_of_ble_eq_true rfl) (by decide) (by decide) (c_PG_isOnWire_1_3_neg G v z hz_n hv) (fun r u1 hq => ?_)
  obtain ⟨hr, hv2, hm3⟩ := hq
  rw [hr]
  clear hr r
  have hm4 := hm.go hm3 (by intro i hi; simp only [List.mem_cons, List.not_mem_nil, or_false] at hi ⊢ <;> omega)
  show ST G mi_PG_tamper 7 [(0, .ref 61), (1, .int (nI 1)), (2, .int (nI 3)), (3, .int z), (4, .int mask)] [.int (nI 0)] u1 0 0 _
  refine S_if_neN d_PG_tamper_7 rfl (by omega) (fun c => by first | exact absurd c (by omega) | exact c.elim | exact absurd c (by decide) | exact absurd (by assumption) c | exact absurd c (by assumption) | exact absurd c (Int32.not_le.mpr (by assumption))) (fun _ => ?_)
  refine ST.lift (fun _ _ k => T_iconst (v := nI 0) d_PG_tamper_10 (by decide) k) ?_
  refine S_topi (y := nI 0) (congrArg nI (by omega)) ?_
  exact S_ret d_PG_tamper_11 rfl (nar_z (by omega)) (by decide) (by decide) (hQ _ hv2 hm4)
set_option maxRecDepth 100000 in
set_option maxHeartbeats 4000000 in
theorem c_PG_isOnWire_1_3_out (G : GX) (v : Nat → Int32) (i : Nat) (b_i : i < 2147483648) (k : Nat) (e40 : v 40 = nI k) (hk : k ≤ i ∧ k ≤ 64) (hv : okv v) : CS G mi_PG_isOnWire [.ref 61, .int (nI 1), .int (nI 3), .int (nI i)] v (fun r v' => r = some (.int (nI 0)) ∧ okv v' ∧ mdf [] v v' ∧ v' 40 = nI k) := by
  refine CS.of (by decide) (Nat.le_of_ble_eq_true rfl) ?_
  generalize hQe : (fun (r : Option Value) (v' : Nat → Int32) => r = some (.int (nI 0)) ∧ okv v' ∧ mdf [] v v' ∧ v' 40 = nI k) = Q
  have hQ : ∀ u, okv u → mdf [] v u → u 40 = nI k → Q (some (.int (nI 0))) u := by rw [← hQe]; exact fun u h1 h2 f0 => ⟨rfl, h1, h2, f0⟩
  clear hQe
  have hm : mdf [] v v := mdf.rf
  show ST G mi_PG_isOnWire 0 [(0, .ref 61), (1, .int (nI 1)), (2, .int (nI 3)), (3, .int (nI i))] [] v 0 0 Q
  refine ST.lift (fun _ _ k => T_iload_n d_PG_isOnWire_0 rfl k) ?_
  refine S_static (as := [.int (nI 1)]) (rest := []) d_PG_isOnWire_1 rfl (jw_PG_isSession.jo (by decide)) lm_PG_133 jt_PG_isSession rfl (Nat.le_of_ble_eq_true rfl) (by decide) (by decide) (c_PG_isSession G v 1 (by omega)) (fun r v' hq => ?_)
  rw [hq.1, hq.2]
  clear hq r v'
  show ST G mi_PG_isOnWire 4 [(0, .ref 61), (1, .int (nI 1)), (2, .int (nI 3)), (3, .int (nI i))] [.int (nI 1)] v 0 0 _
  refine S_if_eqN d_PG_isOnWire_4 rfl (by omega) (fun c => by first | exact absurd c (by omega) | exact c.elim | exact absurd c (by decide) | exact absurd (by assumption) c | exact absurd c (by assumption) | exact absurd c (Int32.not_le.mpr (by assumption))) (fun _ => ?_)
  refine ST.lift (fun _ _ k => T_iload_n d_PG_isOnWire_7 rfl k) ?_
  refine ST.lift (fun _ _ k => T_iconst (v := nI 1) d_PG_isOnWire_8 (by decide) k) ?_
  refine S_icmp_ltN d_PG_isOnWire_9 rfl (by omega) (by omega) (fun c => by first | exact absurd c (by omega) | exact c.elim | exact absurd c (by decide) | exact absurd (by assumption) c | exact absurd c (by assumption) | exact absurd c (Int32.not_le.mpr (by assumption))) (fun _ => ?_)
  refine ST.lift (fun _ _ k => T_iload_n d_PG_isOnWire_12 rfl k) ?_
  refine ST.lift (fun _ _ k => T_iconst (v := nI 3) d_PG_isOnWire_13 (by decide) k) ?_
  refine S_icmp_gtN d_PG_isOnWire_14 rfl (by omega) (by omega) (fun c => by first | exact absurd c (by omega) | exact c.elim | exact absurd c (by decide) | exact absurd (by assumption) c | exact absurd c (by assumption) | exact absurd c (Int32.not_le.mpr (by assumption))) (fun _ => ?_)
  refine ST.lift (fun _ _ k => T_aload_n (v := .ref 61) d_PG_isOnWire_17 rfl (Or.inr ⟨_, rfl⟩) k) ?_
  refine S_getfield d_PG_isOnWire_18 fg_PG_34 (w61 _) rfl ?_
  refine ST.lift (fun _ _ k => T_iload_n d_PG_isOnWire_21 rfl k) ?_
  refine S_aaload (C0 := "PasswordGate$Session") d_PG_isOnWire_22 (by decide) (w264 _) rfl (vp_in_nI (by omega) (by omega)) ?_
  refine S_getfield d_PG_isOnWire_23 fg_PG_158 (w291 _) rfl ?_
  refine ST.lift (fun _ _ k => T_iload_n d_PG_isOnWire_26 rfl k) ?_
  refine ST.lift (fun _ _ k => T_iconst (v := nI 1) d_PG_isOnWire_27 (by decide) k) ?_
  refine S_isubN d_PG_isOnWire_28 (by omega) ?_
  refine S_topi (y := nI 2) (by decide) ?_
  refine S_aaload (C0 := "PasswordGate$Bytes") d_PG_isOnWire_29 (by decide) (w292 _) rfl (vp_in_nI (by omega) (by omega)) ?_
  refine ST.lift (fun _ _ k => T_iload_n d_PG_isOnWire_30 rfl k) ?_
  refine S_virtual (as := [.int (nI i)]) (rest := []) (b := 309) d_PG_isOnWire_31 rfl (jw_By_has.jo (by decide)) lm_PG_119 ji_By_has js_By_has (w309 _) rfl rfl rfl (Nat.le_of_ble_eq_true rfl) (by decide) (by decide) (c_By_has_out G v 309 310 64 40 ⟨w309, a310, by decide, u309_1, by decide, by decide⟩ i (by omega) k e40 (by omega) hv) (fun r u1 hq => ?_)
  obtain ⟨hr, hv2, hm3, fe0_u1⟩ := hq
  rw [hr]
  clear hr r
  have hm4 := hm.go hm3 (by intro i hi; simp only [List.mem_cons, List.not_mem_nil, or_false] at hi ⊢ <;> omega)
  have e5 : u1 40 = nI k := (hm3 40 (by decide)).trans e40
  show ST G mi_PG_isOnWire 34 [(0, .ref 61), (1, .int (nI 1)), (2, .int (nI 3)), (3, .int (nI i))] [.int (nI 0)] u1 0 0 _
  refine S_if_eqN d_PG_isOnWire_34 rfl (by omega) (fun _ => ?_) (fun c => by first | exact absurd c (by omega) | exact c.elim | exact absurd c (by decide) | exact absurd (by assumption) c | exact absurd c (by assumption) | exact absurd c (Int32.not_le.mpr (by assumption)))
  refine ST.lift (fun _ _ k => T_iconst (v := nI 0) d_PG_isOnWire_41 (by decide) k) ?_
  refine S_topi (y := nI 0) (congrArg nI (by omega)) ?_
  exact S_ret d_PG_isOnWire_42 rfl (nar_z (by omega)) (by decide) (by decide) (hQ _ hv2 hm4 (fe0_u1.trans (congrArg nI (by omega))))
set_option maxRecDepth 100000 in
set_option maxHeartbeats 4000000 in
theorem c_PG_tamper_1_3_out (G : GX) (v : Nat → Int32) (i : Nat) (b_i : i < 2147483648) (mask : Int32) (k : Nat) (e40 : v 40 = nI k) (hk : k ≤ i ∧ k ≤ 64) (hv : okv v) : CS G mi_PG_tamper [.ref 61, .int (nI 1), .int (nI 3), .int (nI i), .int mask] v (fun r v' => r = some (.int (nI 0)) ∧ okv v' ∧ mdf [] v v' ∧ v' 40 = nI k) := by
  refine CS.of (by decide) (Nat.le_of_ble_eq_true rfl) ?_
  generalize hQe : (fun (r : Option Value) (v' : Nat → Int32) => r = some (.int (nI 0)) ∧ okv v' ∧ mdf [] v v' ∧ v' 40 = nI k) = Q
  have hQ : ∀ u, okv u → mdf [] v u → u 40 = nI k → Q (some (.int (nI 0))) u := by rw [← hQe]; exact fun u h1 h2 f0 => ⟨rfl, h1, h2, f0⟩
  clear hQe
  have hm : mdf [] v v := mdf.rf
  show ST G mi_PG_tamper 0 [(0, .ref 61), (1, .int (nI 1)), (2, .int (nI 3)), (3, .int (nI i)), (4, .int mask)] [] v 0 0 Q
  refine ST.lift (fun _ _ k => T_aload_n (v := .ref 61) d_PG_tamper_0 rfl (Or.inr ⟨_, rfl⟩) k) ?_
  refine ST.lift (fun _ _ k => T_iload_n d_PG_tamper_1 rfl k) ?_
  refine ST.lift (fun _ _ k => T_iload_n d_PG_tamper_2 rfl k) ?_
  refine ST.lift (fun _ _ k => T_iload_n d_PG_tamper_3 rfl k) ?_
  refine S_virtual (as := [.int (nI 1), .int (nI 3), .int (nI i)]) (rest := []) (b := 61) d_PG_tamper_4 rfl (jw_PG_isOnWire.jo (by decide)) lm_PG_154 ji_PG_isOnWire js_PG_isOnWire (w61 _) rfl rfl rfl (Nat.le_of_ble_eq_true rfl) (by decide) (by decide) (c_PG_isOnWire_1_3_out G v i (by omega) k e40 (by omega) hv) (fun r u1 hq => ?_)
  obtain ⟨hr, hv2, hm3, fe0_u1⟩ := hq
  rw [hr]
  clear hr r
  have hm4 := hm.go hm3 (by intro i hi; simp only [List.mem_cons, List.not_mem_nil, or_false] at hi ⊢ <;> omega)
  have e5 : u1 40 = nI k := (hm3 40 (by decide)).trans e40
  show ST G mi_PG_tamper 7 [(0, .ref 61), (1, .int (nI 1)), (2, .int (nI 3)), (3, .int (nI i)), (4, .int mask)] [.int (nI 0)] u1 0 0 _
  refine S_if_neN d_PG_tamper_7 rfl (by omega) (fun c => by first | exact absurd c (by omega) | exact c.elim | exact absurd c (by decide) | exact absurd (by assumption) c | exact absurd c (by assumption) | exact absurd c (Int32.not_le.mpr (by assumption))) (fun _ => ?_)
  refine ST.lift (fun _ _ k => T_iconst (v := nI 0) d_PG_tamper_10 (by decide) k) ?_
  refine S_topi (y := nI 0) (congrArg nI (by omega)) ?_
  exact S_ret d_PG_tamper_11 rfl (nar_z (by omega)) (by decide) (by decide) (hQ _ hv2 hm4 (fe0_u1.trans (congrArg nI (by omega))))
set_option maxRecDepth 100000 in
set_option maxHeartbeats 4000000 in
theorem c_PG_isOnWire_1_3_in (G : GX) (v : Nat → Int32) (i : Nat) (b_i : i < 2147483648) (k : Nat) (e40 : v 40 = nI k) (hk : i < k ∧ k ≤ 64) (hv : okv v) : CS G mi_PG_isOnWire [.ref 61, .int (nI 1), .int (nI 3), .int (nI i)] v (fun r v' => r = some (.int (nI 1)) ∧ okv v' ∧ mdf [] v v' ∧ v' 40 = nI k) := by
  refine CS.of (by decide) (Nat.le_of_ble_eq_true rfl) ?_
  generalize hQe : (fun (r : Option Value) (v' : Nat → Int32) => r = some (.int (nI 1)) ∧ okv v' ∧ mdf [] v v' ∧ v' 40 = nI k) = Q
  have hQ : ∀ u, okv u → mdf [] v u → u 40 = nI k → Q (some (.int (nI 1))) u := by rw [← hQe]; exact fun u h1 h2 f0 => ⟨rfl, h1, h2, f0⟩
  clear hQe
  have hm : mdf [] v v := mdf.rf
  show ST G mi_PG_isOnWire 0 [(0, .ref 61), (1, .int (nI 1)), (2, .int (nI 3)), (3, .int (nI i))] [] v 0 0 Q
  refine ST.lift (fun _ _ k => T_iload_n d_PG_isOnWire_0 rfl k) ?_
  refine S_static (as := [.int (nI 1)]) (rest := []) d_PG_isOnWire_1 rfl (jw_PG_isSession.jo (by decide)) lm_PG_133 jt_PG_isSession rfl (Nat.le_of_ble_eq_true rfl) (by decide) (by decide) (c_PG_isSession G v 1 (by omega)) (fun r v' hq => ?_)
  rw [hq.1, hq.2]
  clear hq r v'
  show ST G mi_PG_isOnWire 4 [(0, .ref 61), (1, .int (nI 1)), (2, .int (nI 3)), (3, .int (nI i))] [.int (nI 1)] v 0 0 _
  refine S_if_eqN d_PG_isOnWire_4 rfl (by omega) (fun c => by first | exact absurd c (by omega) | exact c.elim | exact absurd c (by decide) | exact absurd (by assumption) c | exact absurd c (by assumption) | exact absurd c (Int32.not_le.mpr (by assumption))) (fun _ => ?_)
  refine ST.lift (fun _ _ k => T_iload_n d_PG_isOnWire_7 rfl k) ?_
  refine ST.lift (fun _ _ k => T_iconst (v := nI 1) d_PG_isOnWire_8 (by decide) k) ?_
  refine S_icmp_ltN d_PG_isOnWire_9 rfl (by omega) (by omega) (fun c => by first | exact absurd c (by omega) | exact c.elim | exact absurd c (by decide) | exact absurd (by assumption) c | exact absurd c (by assumption) | exact absurd c (Int32.not_le.mpr (by assumption))) (fun _ => ?_)
  refine ST.lift (fun _ _ k => T_iload_n d_PG_isOnWire_12 rfl k) ?_
  refine ST.lift (fun _ _ k => T_iconst (v := nI 3) d_PG_isOnWire_13 (by decide) k) ?_
  refine S_icmp_gtN d_PG_isOnWire_14 rfl (by omega) (by omega) (fun c => by first | exact absurd c (by omega) | exact c.elim | exact absurd c (by decide) | exact absurd (by assumption) c | exact absurd c (by assumption) | exact absurd c (Int32.not_le.mpr (by assumption))) (fun _ => ?_)
  refine ST.lift (fun _ _ k => T_aload_n (v := .ref 61) d_PG_isOnWire_17 rfl (Or.inr ⟨_, rfl⟩) k) ?_
  refine S_getfield d_PG_isOnWire_18 fg_PG_34 (w61 _) rfl ?_
  refine ST.lift (fun _ _ k => T_iload_n d_PG_isOnWire_21 rfl k) ?_
  refine S_aaload (C0 := "PasswordGate$Session") d_PG_isOnWire_22 (by decide) (w264 _) rfl (vp_in_nI (by omega) (by omega)) ?_
  refine S_getfield d_PG_isOnWire_23 fg_PG_158 (w291 _) rfl ?_
  refine ST.lift (fun _ _ k => T_iload_n d_PG_isOnWire_26 rfl k) ?_
  refine ST.lift (fun _ _ k => T_iconst (v := nI 1) d_PG_isOnWire_27 (by decide) k) ?_
  refine S_isubN d_PG_isOnWire_28 (by omega) ?_
  refine S_topi (y := nI 2) (by decide) ?_
  refine S_aaload (C0 := "PasswordGate$Bytes") d_PG_isOnWire_29 (by decide) (w292 _) rfl (vp_in_nI (by omega) (by omega)) ?_
  refine ST.lift (fun _ _ k => T_iload_n d_PG_isOnWire_30 rfl k) ?_
  refine S_virtual (as := [.int (nI i)]) (rest := []) (b := 309) d_PG_isOnWire_31 rfl (jw_By_has.jo (by decide)) lm_PG_119 ji_By_has js_By_has (w309 _) rfl rfl rfl (Nat.le_of_ble_eq_true rfl) (by decide) (by decide) (c_By_has_in G v 309 310 64 40 ⟨w309, a310, by decide, u309_1, by decide, by decide⟩ i (by omega) k e40 (by omega) hv) (fun r u1 hq => ?_)
  obtain ⟨hr, hv2, hm3, fe0_u1⟩ := hq
  rw [hr]
  clear hr r
  have hm4 := hm.go hm3 (by intro i hi; simp only [List.mem_cons, List.not_mem_nil, or_false] at hi ⊢ <;> omega)
  have e5 : u1 40 = nI k := (hm3 40 (by decide)).trans e40
  show ST G mi_PG_isOnWire 34 [(0, .ref 61), (1, .int (nI 1)), (2, .int (nI 3)), (3, .int (nI i))] [.int (nI 1)] u1 0 0 _
  refine S_if_eqN d_PG_isOnWire_34 rfl (by omega) (fun c => by first | exact absurd c (by omega) | exact c.elim | exact absurd c (by decide) | exact absurd (by assumption) c | exact absurd c (by assumption) | exact absurd c (Int32.not_le.mpr (by assumption))) (fun _ => ?_)
  refine ST.lift (fun _ _ k => T_iconst (v := nI 1) d_PG_isOnWire_37 (by decide) k) ?_
  refine ST.lift (fun _ _ k => T_goto (tgt := 42) d_PG_isOnWire_38 rfl k) ?_
  refine S_topi (y := nI 1) (congrArg nI (by omega)) ?_
  exact S_ret d_PG_isOnWire_42 rfl (nar_z (by omega)) (by decide) (by decide) (hQ _ hv2 hm4 (fe0_u1.trans (congrArg nI (by omega))))
set_option maxRecDepth 100000 in
set_option maxHeartbeats 4000000 in
theorem c_PG_wire_1_3_in (G : GX) (v : Nat → Int32) (i : Nat) (b_i : i < 2147483648) (k : Nat) (e40 : v 40 = nI k) (hk : i < k ∧ k ≤ 64) (hv : okv v) : CS G mi_PG_wire [.ref 61, .int (nI 1), .int (nI 3), .int (nI i)] v (fun r v' => ∃ z : Int32, r = some (.int z) ∧ okv v' ∧ mdf [] v v' ∧ v' 40 = nI k) := by
  refine CS.of (by decide) (Nat.le_of_ble_eq_true rfl) ?_
  generalize hQe : (fun (r : Option Value) (v' : Nat → Int32) => ∃ z : Int32, r = some (.int z) ∧ okv v' ∧ mdf [] v v' ∧ v' 40 = nI k) = Q
  have hQ : ∀ (z : Int32) (u : Nat → Int32), okv u → mdf [] v u → u 40 = nI k → Q (some (.int z)) u := by rw [← hQe]; exact fun z u h1 h2 f0 => ⟨z, rfl, h1, h2, f0⟩
  clear hQe
  have hm : mdf [] v v := mdf.rf
  show ST G mi_PG_wire 0 [(0, .ref 61), (1, .int (nI 1)), (2, .int (nI 3)), (3, .int (nI i))] [] v 0 0 Q
  refine ST.lift (fun _ _ k => T_aload_n (v := .ref 61) d_PG_wire_0 rfl (Or.inr ⟨_, rfl⟩) k) ?_
  refine ST.lift (fun _ _ k => T_iload_n d_PG_wire_1 rfl k) ?_
  refine ST.lift (fun _ _ k => T_iload_n d_PG_wire_2 rfl k) ?_
  refine ST.lift (fun _ _ k => T_iload_n d_PG_wire_3 rfl k) ?_
  refine S_virtual (as := [.int (nI 1), .int (nI 3), .int (nI i)]) (rest := []) (b := 61) d_PG_wire_4 rfl (jw_PG_isOnWire.jo (by decide)) lm_PG_154 ji_PG_isOnWire js_PG_isOnWire (w61 _) rfl rfl rfl (Nat.le_of_ble_eq_true rfl) (by decide) (by decide) (c_PG_isOnWire_1_3_in G v i (by omega) k e40 (by omega) hv) (fun r u1 hq => ?_)
  obtain ⟨hr, hv2, hm3, fe0_u1⟩ := hq
  rw [hr]
  clear hr r
  have hm4 := hm.go hm3 (by intro i hi; simp only [List.mem_cons, List.not_mem_nil, or_false] at hi ⊢ <;> omega)
  have e5 : u1 40 = nI k := (hm3 40 (by decide)).trans e40
  show ST G mi_PG_wire 7 [(0, .ref 61), (1, .int (nI 1)), (2, .int (nI 3)), (3, .int (nI i))] [.int (nI 1)] u1 0 0 _
  refine S_if_neN d_PG_wire_7 rfl (by omega) (fun _ => ?_) (fun c => by first | exact absurd c (by omega) | exact c.elim | exact absurd c (by decide) | exact absurd (by assumption) c | exact absurd c (by assumption) | exact absurd c (Int32.not_le.mpr (by assumption)))
  refine ST.lift (fun _ _ k => T_aload_n (v := .ref 61) d_PG_wire_18 rfl (Or.inr ⟨_, rfl⟩) k) ?_
  refine S_getfield d_PG_wire_19 fg_PG_34 (w61 _) rfl ?_
  refine ST.lift (fun _ _ k => T_iload_n d_PG_wire_22 rfl k) ?_
  refine S_aaload (C0 := "PasswordGate$Session") d_PG_wire_23 (by decide) (w264 _) rfl (vp_in_nI (by omega) (by omega)) ?_
  refine S_getfield d_PG_wire_24 fg_PG_158 (w291 _) rfl ?_
  refine ST.lift (fun _ _ k => T_iload_n d_PG_wire_27 rfl k) ?_
  refine ST.lift (fun _ _ k => T_iconst (v := nI 1) d_PG_wire_28 (by decide) k) ?_
  refine S_isubN d_PG_wire_29 (by omega) ?_
  refine S_topi (y := nI 2) (by decide) ?_
  refine S_aaload (C0 := "PasswordGate$Bytes") d_PG_wire_30 (by decide) (w292 _) rfl (vp_in_nI (by omega) (by omega)) ?_
  refine S_getfield d_PG_wire_31 fg_PG_93 (w309 _) rfl ?_
  refine ST.lift (fun _ _ k => T_iload_n d_PG_wire_34 rfl k) ?_
  refine S_baload d_PG_wire_35 a310 (vp_in_nI (by omega) (by omega)) (fun z6 hz6 => ?_)
  refine ST.lift (fun _ _ k => T_sipush (v := nI 255) d_PG_wire_36 (by decide) k) ?_
  refine S_iandM 8 d_PG_wire_39 (by decide) (by decide) (fun j7 hj7 => ?_)
  simp only [Nat.reducePow] at hj7
  exact S_ret d_PG_wire_40 rfl rfl (by decide) (by decide) (hQ _ _ hv2 hm4 (fe0_u1.trans (congrArg nI (by omega))))
set_option maxRecDepth 100000 in
set_option maxHeartbeats 4000000 in
theorem c_PG_key_1_0_in (G : GX) (v : Nat → Int32) (i : Nat) (b_i : i < 2147483648) (k : Nat) (e41 : v 41 = nI k) (hk : i < k ∧ k ≤ 64) (hv : okv v) : CS G mi_PG_key [.ref 61, .int (nI 1), .int (nI 0), .int (nI i)] v (fun r v' => ∃ z : Int32, r = some (.int z) ∧ okv v' ∧ mdf [] v v' ∧ v' 41 = nI k) := by
  refine CS.of (by decide) (Nat.le_of_ble_eq_true rfl) ?_
  generalize hQe : (fun (r : Option Value) (v' : Nat → Int32) => ∃ z : Int32, r = some (.int z) ∧ okv v' ∧ mdf [] v v' ∧ v' 41 = nI k) = Q
  have hQ : ∀ (z : Int32) (u : Nat → Int32), okv u → mdf [] v u → u 41 = nI k → Q (some (.int z)) u := by rw [← hQe]; exact fun z u h1 h2 f0 => ⟨z, rfl, h1, h2, f0⟩
  clear hQe
  have hm : mdf [] v v := mdf.rf
  show ST G mi_PG_key 0 [(0, .ref 61), (1, .int (nI 1)), (2, .int (nI 0)), (3, .int (nI i))] [] v 0 0 Q
  refine ST.lift (fun _ _ k => T_iload_n d_PG_key_0 rfl k) ?_
  refine S_static (as := [.int (nI 1)]) (rest := []) d_PG_key_1 rfl (jw_PG_isSession.jo (by decide)) lm_PG_133 jt_PG_isSession rfl (Nat.le_of_ble_eq_true rfl) (by decide) (by decide) (c_PG_isSession G v 1 (by omega)) (fun r v' hq => ?_)
  rw [hq.1, hq.2]
  clear hq r v'
  show ST G mi_PG_key 4 [(0, .ref 61), (1, .int (nI 1)), (2, .int (nI 0)), (3, .int (nI i))] [.int (nI 1)] v 0 0 _
  refine S_if_eqN d_PG_key_4 rfl (by omega) (fun c => by first | exact absurd c (by omega) | exact c.elim | exact absurd c (by decide) | exact absurd (by assumption) c | exact absurd c (by assumption) | exact absurd c (Int32.not_le.mpr (by assumption))) (fun _ => ?_)
  refine ST.lift (fun _ _ k => T_iload_n d_PG_key_7 rfl k) ?_
  refine S_if_ltN d_PG_key_8 rfl (by omega) (fun c => by first | exact absurd c (by omega) | exact c.elim | exact absurd c (by decide) | exact absurd (by assumption) c | exact absurd c (by assumption) | exact absurd c (Int32.not_le.mpr (by assumption))) (fun _ => ?_)
  refine ST.lift (fun _ _ k => T_iload_n d_PG_key_11 rfl k) ?_
  refine ST.lift (fun _ _ k => T_iconst (v := nI 2) d_PG_key_12 (by decide) k) ?_
  refine S_icmp_gtN d_PG_key_13 rfl (by omega) (by omega) (fun c => by first | exact absurd c (by omega) | exact c.elim | exact absurd c (by decide) | exact absurd (by assumption) c | exact absurd c (by assumption) | exact absurd c (Int32.not_le.mpr (by assumption))) (fun _ => ?_)
  refine ST.lift (fun _ _ k => T_aload_n (v := .ref 61) d_PG_key_16 rfl (Or.inr ⟨_, rfl⟩) k) ?_
  refine S_getfield d_PG_key_17 fg_PG_34 (w61 _) rfl ?_
  refine ST.lift (fun _ _ k => T_iload_n d_PG_key_20 rfl k) ?_
  refine S_aaload (C0 := "PasswordGate$Session") d_PG_key_21 (by decide) (w264 _) rfl (vp_in_nI (by omega) (by omega)) ?_
  refine S_getfield d_PG_key_22 fg_PG_162 (w291 _) rfl ?_
  refine ST.lift (fun _ _ k => T_iload_n d_PG_key_25 rfl k) ?_
  refine S_aaload (C0 := "PasswordGate$Bytes") d_PG_key_26 (by decide) (w293 _) rfl (vp_in_nI (by omega) (by omega)) ?_
  refine ST.lift (fun _ _ k => T_iload_n d_PG_key_27 rfl k) ?_
  refine S_virtual (as := [.int (nI i)]) (rest := []) (b := 311) d_PG_key_28 rfl (jw_By_has.jo (by decide)) lm_PG_119 ji_By_has js_By_has (w311 _) rfl rfl rfl (Nat.le_of_ble_eq_true rfl) (by decide) (by decide) (c_By_has_in G v 311 312 64 41 ⟨w311, a312, by decide, u311_1, by decide, by decide⟩ i (by omega) k e41 (by omega) hv) (fun r u1 hq => ?_)
  obtain ⟨hr, hv2, hm3, fe0_u1⟩ := hq
  rw [hr]
  clear hr r
  have hm4 := hm.go hm3 (by intro i hi; simp only [List.mem_cons, List.not_mem_nil, or_false] at hi ⊢ <;> omega)
  have e5 : u1 41 = nI k := (hm3 41 (by decide)).trans e41
  show ST G mi_PG_key 31 [(0, .ref 61), (1, .int (nI 1)), (2, .int (nI 0)), (3, .int (nI i))] [.int (nI 1)] u1 0 0 _
  refine S_if_neN d_PG_key_31 rfl (by omega) (fun _ => ?_) (fun c => by first | exact absurd c (by omega) | exact c.elim | exact absurd c (by decide) | exact absurd (by assumption) c | exact absurd c (by assumption) | exact absurd c (Int32.not_le.mpr (by assumption)))
  refine ST.lift (fun _ _ k => T_aload_n (v := .ref 61) d_PG_key_42 rfl (Or.inr ⟨_, rfl⟩) k) ?_
  refine S_getfield d_PG_key_43 fg_PG_34 (w61 _) rfl ?_
  refine ST.lift (fun _ _ k => T_iload_n d_PG_key_46 rfl k) ?_
  refine S_aaload (C0 := "PasswordGate$Session") d_PG_key_47 (by decide) (w264 _) rfl (vp_in_nI (by omega) (by omega)) ?_
  refine S_getfield d_PG_key_48 fg_PG_162 (w291 _) rfl ?_
  refine ST.lift (fun _ _ k => T_iload_n d_PG_key_51 rfl k) ?_
  refine S_aaload (C0 := "PasswordGate$Bytes") d_PG_key_52 (by decide) (w293 _) rfl (vp_in_nI (by omega) (by omega)) ?_
  refine S_getfield d_PG_key_53 fg_PG_93 (w311 _) rfl ?_
  refine ST.lift (fun _ _ k => T_iload_n d_PG_key_56 rfl k) ?_
  refine S_baload d_PG_key_57 a312 (vp_in_nI (by omega) (by omega)) (fun z6 hz6 => ?_)
  refine ST.lift (fun _ _ k => T_sipush (v := nI 255) d_PG_key_58 (by decide) k) ?_
  refine S_iandM 8 d_PG_key_61 (by decide) (by decide) (fun j7 hj7 => ?_)
  simp only [Nat.reducePow] at hj7
  exact S_ret d_PG_key_62 rfl rfl (by decide) (by decide) (hQ _ _ hv2 hm4 (fe0_u1.trans (congrArg nI (by omega))))
set_option maxRecDepth 100000 in
set_option maxHeartbeats 4000000 in
theorem c_PG_key_1_1_in (G : GX) (v : Nat → Int32) (i : Nat) (b_i : i < 2147483648) (k : Nat) (e42 : v 42 = nI k) (hk : i < k ∧ k ≤ 64) (hv : okv v) : CS G mi_PG_key [.ref 61, .int (nI 1), .int (nI 1), .int (nI i)] v (fun r v' => ∃ z : Int32, r = some (.int z) ∧ okv v' ∧ mdf [] v v' ∧ v' 42 = nI k) := by
  refine CS.of (by decide) (Nat.le_of_ble_eq_true rfl) ?_
  generalize hQe : (fun (r : Option Value) (v' : Nat → Int32) => ∃ z : Int32, r = some (.int z) ∧ okv v' ∧ mdf [] v v' ∧ v' 42 = nI k) = Q
  have hQ : ∀ (z : Int32) (u : Nat → Int32), okv u → mdf [] v u → u 42 = nI k → Q (some (.int z)) u := by rw [← hQe]; exact fun z u h1 h2 f0 => ⟨z, rfl, h1, h2, f0⟩
  clear hQe
  have hm : mdf [] v v := mdf.rf
  show ST G mi_PG_key 0 [(0, .ref 61), (1, .int (nI 1)), (2, .int (nI 1)), (3, .int (nI i))] [] v 0 0 Q
  refine ST.lift (fun _ _ k => T_iload_n d_PG_key_0 rfl k) ?_
  refine S_static (as := [.int (nI 1)]) (rest := []) d_PG_key_1 rfl (jw_PG_isSession.jo (by decide)) lm_PG_133 jt_PG_isSession rfl (Nat.le_of_ble_eq_true rfl) (by decide) (by decide) (c_PG_isSession G v 1 (by omega)) (fun r v' hq => ?_)
  rw [hq.1, hq.2]
  clear hq r v'
  show ST G mi_PG_key 4 [(0, .ref 61), (1, .int (nI 1)), (2, .int (nI 1)), (3, .int (nI i))] [.int (nI 1)] v 0 0 _
  refine S_if_eqN d_PG_key_4 rfl (by omega) (fun c => by first | exact absurd c (by omega) | exact c.elim | exact absurd c (by decide) | exact absurd (by assumption) c | exact absurd c (by assumption) | exact absurd c (Int32.not_le.mpr (by assumption))) (fun _ => ?_)
  refine ST.lift (fun _ _ k => T_iload_n d_PG_key_7 rfl k) ?_
  refine S_if_ltN d_PG_key_8 rfl (by omega) (fun c => by first | exact absurd c (by omega) | exact c.elim | exact absurd c (by decide) | exact absurd (by assumption) c | exact absurd c (by assumption) | exact absurd c (Int32.not_le.mpr (by assumption))) (fun _ => ?_)
  refine ST.lift (fun _ _ k => T_iload_n d_PG_key_11 rfl k) ?_
  refine ST.lift (fun _ _ k => T_iconst (v := nI 2) d_PG_key_12 (by decide) k) ?_
  refine S_icmp_gtN d_PG_key_13 rfl (by omega) (by omega) (fun c => by first | exact absurd c (by omega) | exact c.elim | exact absurd c (by decide) | exact absurd (by assumption) c | exact absurd c (by assumption) | exact absurd c (Int32.not_le.mpr (by assumption))) (fun _ => ?_)
  refine ST.lift (fun _ _ k => T_aload_n (v := .ref 61) d_PG_key_16 rfl (Or.inr ⟨_, rfl⟩) k) ?_
  refine S_getfield d_PG_key_17 fg_PG_34 (w61 _) rfl ?_
  refine ST.lift (fun _ _ k => T_iload_n d_PG_key_20 rfl k) ?_
  refine S_aaload (C0 := "PasswordGate$Session") d_PG_key_21 (by decide) (w264 _) rfl (vp_in_nI (by omega) (by omega)) ?_
  refine S_getfield d_PG_key_22 fg_PG_162 (w291 _) rfl ?_
  refine ST.lift (fun _ _ k => T_iload_n d_PG_key_25 rfl k) ?_
  refine S_aaload (C0 := "PasswordGate$Bytes") d_PG_key_26 (by decide) (w293 _) rfl (vp_in_nI (by omega) (by omega)) ?_
  refine ST.lift (fun _ _ k => T_iload_n d_PG_key_27 rfl k) ?_
  refine S_virtual (as := [.int (nI i)]) (rest := []) (b := 313) d_PG_key_28 rfl (jw_By_has.jo (by decide)) lm_PG_119 ji_By_has js_By_has (w313 _) rfl rfl rfl (Nat.le_of_ble_eq_true rfl) (by decide) (by decide) (c_By_has_in G v 313 314 64 42 ⟨w313, a314, by decide, u313_1, by decide, by decide⟩ i (by omega) k e42 (by omega) hv) (fun r u1 hq => ?_)
  obtain ⟨hr, hv2, hm3, fe0_u1⟩ := hq
  rw [hr]
  clear hr r
  have hm4 := hm.go hm3 (by intro i hi; simp only [List.mem_cons, List.not_mem_nil, or_false] at hi ⊢ <;> omega)
  have e5 : u1 42 = nI k := (hm3 42 (by decide)).trans e42
  show ST G mi_PG_key 31 [(0, .ref 61), (1, .int (nI 1)), (2, .int (nI 1)), (3, .int (nI i))] [.int (nI 1)] u1 0 0 _
  refine S_if_neN d_PG_key_31 rfl (by omega) (fun _ => ?_) (fun c => by first | exact absurd c (by omega) | exact c.elim | exact absurd c (by decide) | exact absurd (by assumption) c | exact absurd c (by assumption) | exact absurd c (Int32.not_le.mpr (by assumption)))
  refine ST.lift (fun _ _ k => T_aload_n (v := .ref 61) d_PG_key_42 rfl (Or.inr ⟨_, rfl⟩) k) ?_
  refine S_getfield d_PG_key_43 fg_PG_34 (w61 _) rfl ?_
  refine ST.lift (fun _ _ k => T_iload_n d_PG_key_46 rfl k) ?_
  refine S_aaload (C0 := "PasswordGate$Session") d_PG_key_47 (by decide) (w264 _) rfl (vp_in_nI (by omega) (by omega)) ?_
  refine S_getfield d_PG_key_48 fg_PG_162 (w291 _) rfl ?_
  refine ST.lift (fun _ _ k => T_iload_n d_PG_key_51 rfl k) ?_
  refine S_aaload (C0 := "PasswordGate$Bytes") d_PG_key_52 (by decide) (w293 _) rfl (vp_in_nI (by omega) (by omega)) ?_
  refine S_getfield d_PG_key_53 fg_PG_93 (w313 _) rfl ?_
  refine ST.lift (fun _ _ k => T_iload_n d_PG_key_56 rfl k) ?_
  refine S_baload d_PG_key_57 a314 (vp_in_nI (by omega) (by omega)) (fun z6 hz6 => ?_)
  refine ST.lift (fun _ _ k => T_sipush (v := nI 255) d_PG_key_58 (by decide) k) ?_
  refine S_iandM 8 d_PG_key_61 (by decide) (by decide) (fun j7 hj7 => ?_)
  simp only [Nat.reducePow] at hj7
  exact S_ret d_PG_key_62 rfl rfl (by decide) (by decide) (hQ _ _ hv2 hm4 (fe0_u1.trans (congrArg nI (by omega))))
set_option maxRecDepth 100000 in
set_option maxHeartbeats 4000000 in
theorem c_PG_key_1_2_in (G : GX) (v : Nat → Int32) (i : Nat) (b_i : i < 2147483648) (k : Nat) (e43 : v 43 = nI k) (hk : i < k ∧ k ≤ 64) (hv : okv v) : CS G mi_PG_key [.ref 61, .int (nI 1), .int (nI 2), .int (nI i)] v (fun r v' => ∃ z : Int32, r = some (.int z) ∧ okv v' ∧ mdf [] v v' ∧ v' 43 = nI k) := by
  refine CS.of (by decide) (Nat.le_of_ble_eq_true rfl) ?_
  generalize hQe : (fun (r : Option Value) (v' : Nat → Int32) => ∃ z : Int32, r = some (.int z) ∧ okv v' ∧ mdf [] v v' ∧ v' 43 = nI k) = Q
  have hQ : ∀ (z : Int32) (u : Nat → Int32), okv u → mdf [] v u → u 43 = nI k → Q (some (.int z)) u := by rw [← hQe]; exact fun z u h1 h2 f0 => ⟨z, rfl, h1, h2, f0⟩
  clear hQe
  have hm : mdf [] v v := mdf.rf
  show ST G mi_PG_key 0 [(0, .ref 61), (1, .int (nI 1)), (2, .int (nI 2)), (3, .int (nI i))] [] v 0 0 Q
  refine ST.lift (fun _ _ k => T_iload_n d_PG_key_0 rfl k) ?_
  refine S_static (as := [.int (nI 1)]) (rest := []) d_PG_key_1 rfl (jw_PG_isSession.jo (by decide)) lm_PG_133 jt_PG_isSession rfl (Nat.le_of_ble_eq_true rfl) (by decide) (by decide) (c_PG_isSession G v 1 (by omega)) (fun r v' hq => ?_)
  rw [hq.1, hq.2]
  clear hq r v'
  show ST G mi_PG_key 4 [(0, .ref 61), (1, .int (nI 1)), (2, .int (nI 2)), (3, .int (nI i))] [.int (nI 1)] v 0 0 _
  refine S_if_eqN d_PG_key_4 rfl (by omega) (fun c => by first | exact absurd c (by omega) | exact c.elim | exact absurd c (by decide) | exact absurd (by assumption) c | exact absurd c (by assumption) | exact absurd c (Int32.not_le.mpr (by assumption))) (fun _ => ?_)
  refine ST.lift (fun _ _ k => T_iload_n d_PG_key_7 rfl k) ?_
  refine S_if_ltN d_PG_key_8 rfl (by omega) (fun c => by first | exact absurd c (by omega) | exact c.elim | exact absurd c (by decide) | exact absurd (by assumption) c | exact absurd c (by assumption) | exact absurd c (Int32.not_le.mpr (by assumption))) (fun _ => ?_)
  refine ST.lift (fun _ _ k => T_iload_n d_PG_key_11 rfl k) ?_
  refine ST.lift (fun _ _ k => T_iconst (v := nI 2) d_PG_key_12 (by decide) k) ?_
  refine S_icmp_gtN d_PG_key_13 rfl (by omega) (by omega) (fun c => by first | exact absurd c (by omega) | exact c.elim | exact absurd c (by decide) | exact absurd (by assumption) c | exact absurd c (by assumption) | exact absurd c (Int32.not_le.mpr (by assumption))) (fun _ => ?_)
  refine ST.lift (fun _ _ k => T_aload_n (v := .ref 61) d_PG_key_16 rfl (Or.inr ⟨_, rfl⟩) k) ?_
  refine S_getfield d_PG_key_17 fg_PG_34 (w61 _) rfl ?_
  refine ST.lift (fun _ _ k => T_iload_n d_PG_key_20 rfl k) ?_
  refine S_aaload (C0 := "PasswordGate$Session") d_PG_key_21 (by decide) (w264 _) rfl (vp_in_nI (by omega) (by omega)) ?_
  refine S_getfield d_PG_key_22 fg_PG_162 (w291 _) rfl ?_
  refine ST.lift (fun _ _ k => T_iload_n d_PG_key_25 rfl k) ?_
  refine S_aaload (C0 := "PasswordGate$Bytes") d_PG_key_26 (by decide) (w293 _) rfl (vp_in_nI (by omega) (by omega)) ?_
  refine ST.lift (fun _ _ k => T_iload_n d_PG_key_27 rfl k) ?_
  refine S_virtual (as := [.int (nI i)]) (rest := []) (b := 315) d_PG_key_28 rfl (jw_By_has.jo (by decide)) lm_PG_119 ji_By_has js_By_has (w315 _) rfl rfl rfl (Nat.le_of_ble_eq_true rfl) (by decide) (by decide) (c_By_has_in G v 315 316 64 43 ⟨w315, a316, by decide, u315_1, by decide, by decide⟩ i (by omega) k e43 (by omega) hv) (fun r u1 hq => ?_)
  obtain ⟨hr, hv2, hm3, fe0_u1⟩ := hq
  rw [hr]
  clear hr r
  have hm4 := hm.go hm3 (by intro i hi; simp only [List.mem_cons, List.not_mem_nil, or_false] at hi ⊢ <;> omega)
  have e5 : u1 43 = nI k := (hm3 43 (by decide)).trans e43
  show ST G mi_PG_key 31 [(0, .ref 61), (1, .int (nI 1)), (2, .int (nI 2)), (3, .int (nI i))] [.int (nI 1)] u1 0 0 _
  refine S_if_neN d_PG_key_31 rfl (by omega) (fun _ => ?_) (fun c => by first | exact absurd c (by omega) | exact c.elim | exact absurd c (by decide) | exact absurd (by assumption) c | exact absurd c (by assumption) | exact absurd c (Int32.not_le.mpr (by assumption)))
  refine ST.lift (fun _ _ k => T_aload_n (v := .ref 61) d_PG_key_42 rfl (Or.inr ⟨_, rfl⟩) k) ?_
  refine S_getfield d_PG_key_43 fg_PG_34 (w61 _) rfl ?_
  refine ST.lift (fun _ _ k => T_iload_n d_PG_key_46 rfl k) ?_
  refine S_aaload (C0 := "PasswordGate$Session") d_PG_key_47 (by decide) (w264 _) rfl (vp_in_nI (by omega) (by omega)) ?_
  refine S_getfield d_PG_key_48 fg_PG_162 (w291 _) rfl ?_
  refine ST.lift (fun _ _ k => T_iload_n d_PG_key_51 rfl k) ?_
  refine S_aaload (C0 := "PasswordGate$Bytes") d_PG_key_52 (by decide) (w293 _) rfl (vp_in_nI (by omega) (by omega)) ?_
  refine S_getfield d_PG_key_53 fg_PG_93 (w315 _) rfl ?_
  refine ST.lift (fun _ _ k => T_iload_n d_PG_key_56 rfl k) ?_
  refine S_baload d_PG_key_57 a316 (vp_in_nI (by omega) (by omega)) (fun z6 hz6 => ?_)
  refine ST.lift (fun _ _ k => T_sipush (v := nI 255) d_PG_key_58 (by decide) k) ?_
  refine S_iandM 8 d_PG_key_61 (by decide) (by decide) (fun j7 hj7 => ?_)
  simp only [Nat.reducePow] at hj7
  exact S_ret d_PG_key_62 rfl rfl (by decide) (by decide) (hQ _ _ hv2 hm4 (fe0_u1.trans (congrArg nI (by omega))))
set_option maxRecDepth 100000 in
set_option maxHeartbeats 4000000 in
theorem c_PG_isOnWire_2_mlt (G : GX) (v : Nat → Int32) (y : Int32) (z : Int32) (hy_m : y < nI 1) (hv : okv v) : CS G mi_PG_isOnWire [.ref 61, .int (nI 2), .int y, .int z] v (fun r v' => r = some (.int (nI 0)) ∧ okv v' ∧ mdf [] v v') := by
  refine CS.of (by decide) (Nat.le_of_ble_eq_true rfl) ?_
  generalize hQe : (fun (r : Option Value) (v' : Nat → Int32) => r = some (.int (nI 0)) ∧ okv v' ∧ mdf [] v v') = Q
  have hQ : ∀ u, okv u → mdf [] v u → Q (some (.int (nI 0))) u := by rw [← hQe]; exact fun u h1 h2  => ⟨rfl, h1, h2⟩
  clear hQe
  have hm : mdf [] v v := mdf.rf
  show ST G mi_PG_isOnWire 0 [(0, .ref 61), (1, .int (nI 2)), (2, .int y), (3, .int z)] [] v 0 0 Q
  refine ST.lift (fun _ _ k => T_iload_n d_PG_isOnWire_0 rfl k) ?_
  refine S_static (as := [.int (nI 2)]) (rest := []) d_PG_isOnWire_1 rfl (jw_PG_isSession.jo (by decide)) lm_PG_133 jt_PG_isSession rfl (Nat.le_of_ble_eq_true rfl) (by decide) (by decide) (c_PG_isSession G v 2 (by omega)) (fun r v' hq => ?_)
  rw [hq.1, hq.2]
  clear hq r v'
  show ST G mi_PG_isOnWire 4 [(0, .ref 61), (1, .int (nI 2)), (2, .int y), (3, .int z)] [.int (nI 1)] v 0 0 _
  refine S_if_eqN d_PG_isOnWire_4 rfl (by omega) (fun c => by first | exact absurd c (by omega) | exact c.elim | exact absurd c (by decide) | exact absurd (by assumption) c | exact absurd c (by assumption) | exact absurd c (Int32.not_le.mpr (by assumption))) (fun _ => ?_)
  refine ST.lift (fun _ _ k => T_iload_n d_PG_isOnWire_7 rfl k) ?_
  refine ST.lift (fun _ _ k => T_iconst (v := nI 1) d_PG_isOnWire_8 (by decide) k) ?_
  refine S_icmp_lt d_PG_isOnWire_9 rfl (fun _ => ?_) (fun c => by first | exact absurd c (by omega) | exact c.elim | exact absurd c (by decide) | exact absurd (by assumption) c | exact absurd c (by assumption) | exact absurd c (Int32.not_le.mpr (by assumption)))
  refine ST.lift (fun _ _ k => T_iconst (v := nI 0) d_PG_isOnWire_41 (by decide) k) ?_
  refine S_topi (y := nI 0) (congrArg nI (by omega)) ?_
  exact S_ret d_PG_isOnWire_42 rfl (nar_z (by omega)) (by decide) (by decide) (hQ _ hv hm)
set_option maxRecDepth 100000 in
set_option maxHeartbeats 4000000 in
theorem c_PG_tamper_2_mlt (G : GX) (v : Nat → Int32) (y : Int32) (z : Int32) (mask : Int32) (hy_m : y < nI 1) (hv : okv v) : CS G mi_PG_tamper [.ref 61, .int (nI 2), .int y, .int z, .int mask] v (fun r v' => r = some (.int (nI 0)) ∧ okv v' ∧ mdf [] v v') := by
  refine CS.of (by decide) (Nat.le_of_ble_eq_true rfl) ?_
  generalize hQe : (fun (r : Option Value) (v' : Nat → Int32) => r = some (.int (nI 0)) ∧ okv v' ∧ mdf [] v v') = Q
  have hQ : ∀ u, okv u → mdf [] v u → Q (some (.int (nI 0))) u := by rw [← hQe]; exact fun u h1 h2  => ⟨rfl, h1, h2⟩
  clear hQe
  have hm : mdf [] v v := mdf.rf
  show ST G mi_PG_tamper 0 [(0, .ref 61), (1, .int (nI 2)), (2, .int y), (3, .int z), (4, .int mask)] [] v 0 0 Q
  refine ST.lift (fun _ _ k => T_aload_n (v := .ref 61) d_PG_tamper_0 rfl (Or.inr ⟨_, rfl⟩) k) ?_
  refine ST.lift (fun _ _ k => T_iload_n d_PG_tamper_1 rfl k) ?_
  refine ST.lift (fun _ _ k => T_iload_n d_PG_tamper_2 rfl k) ?_
  refine ST.lift (fun _ _ k => T_iload_n d_PG_tamper_3 rfl k) ?_
  refine S_virtual (as := [.int (nI 2), .int y, .int z]) (rest := []) (b := 61) d_PG_tamper_4 rfl (jw_PG_isOnWire.jo (by decide)) lm_PG_154 ji_PG_isOnWire js_PG_isOnWire (w61 _) rfl rfl rfl (Nat.le_of_ble_eq_true rfl) (by decide) (by decide) (c_PG_isOnWire_2_mlt G v y z hy_m hv) (fun r u1 hq => ?_)
  obtain ⟨hr, hv2, hm3⟩ := hq
  rw [hr]
  clear hr r
  have hm4 := hm.go hm3 (by intro i hi; simp only [List.mem_cons, List.not_mem_nil, or_false] at hi ⊢ <;> omega)
  show ST G mi_PG_tamper 7 [(0, .ref 61), (1, .int (nI 2)), (2, .int y), (3, .int z), (4, .int mask)] [.int (nI 0)] u1 0 0 _
  refine S_if_neN d_PG_tamper_7 rfl (by omega) (fun c => by first | exact absurd c (by omega) | exact c.elim | exact absurd c (by decide) | exact absurd (by assumption) c | exact absurd c (by assumption) | exact absurd c (Int32.not_le.mpr (by assumption))) (fun _ => ?_)
  refine ST.lift (fun _ _ k => T_iconst (v := nI 0) d_PG_tamper_10 (by decide) k) ?_
  refine S_topi (y := nI 0) (congrArg nI (by omega)) ?_
  exact S_ret d_PG_tamper_11 rfl (nar_z (by omega)) (by decide) (by decide) (hQ _ hv2 hm4)
set_option maxRecDepth 100000 in
set_option maxHeartbeats 4000000 in
theorem c_PG_isOnWire_2_mgt (G : GX) (v : Nat → Int32) (y : Int32) (z : Int32) (h0_m : ¬ y < nI 1) (hy_m : nI 3 < y) (hv : okv v) : CS G mi_PG_isOnWire [.ref 61, .int (nI 2), .int y, .int z] v (fun r v' => r = some (.int (nI 0)) ∧ okv v' ∧ mdf [] v v') := by
  refine CS.of (by decide) (Nat.le_of_ble_eq_true rfl) ?_
  generalize hQe : (fun (r : Option Value) (v' : Nat → Int32) => r = some (.int (nI 0)) ∧ okv v' ∧ mdf [] v v') = Q
  have hQ : ∀ u, okv u → mdf [] v u → Q (some (.int (nI 0))) u := by rw [← hQe]; exact fun u h1 h2  => ⟨rfl, h1, h2⟩
  clear hQe
  have hm : mdf [] v v := mdf.rf
  show ST G mi_PG_isOnWire 0 [(0, .ref 61), (1, .int (nI 2)), (2, .int y), (3, .int z)] [] v 0 0 Q
  refine ST.lift (fun _ _ k => T_iload_n d_PG_isOnWire_0 rfl k) ?_
  refine S_static (as := [.int (nI 2)]) (rest := []) d_PG_isOnWire_1 rfl (jw_PG_isSession.jo (by decide)) lm_PG_133 jt_PG_isSession rfl (Nat.le_of_ble_eq_true rfl) (by decide) (by decide) (c_PG_isSession G v 2 (by omega)) (fun r v' hq => ?_)
  rw [hq.1, hq.2]
  clear hq r v'
  show ST G mi_PG_isOnWire 4 [(0, .ref 61), (1, .int (nI 2)), (2, .int y), (3, .int z)] [.int (nI 1)] v 0 0 _
  refine S_if_eqN d_PG_isOnWire_4 rfl (by omega) (fun c => by first | exact absurd c (by omega) | exact c.elim | exact absurd c (by decide) | exact absurd (by assumption) c | exact absurd c (by assumption) | exact absurd c (Int32.not_le.mpr (by assumption))) (fun _ => ?_)
  refine ST.lift (fun _ _ k => T_iload_n d_PG_isOnWire_7 rfl k) ?_
  refine ST.lift (fun _ _ k => T_iconst (v := nI 1) d_PG_isOnWire_8 (by decide) k) ?_
  refine S_icmp_lt d_PG_isOnWire_9 rfl (fun c => by first | exact absurd c (by omega) | exact c.elim | exact absurd c (by decide) | exact absurd (by assumption) c | exact absurd c (by assumption) | exact absurd c (Int32.not_le.mpr (by assumption))) (fun _ => ?_)
  refine ST.lift (fun _ _ k => T_iload_n d_PG_isOnWire_12 rfl k) ?_
  refine ST.lift (fun _ _ k => T_iconst (v := nI 3) d_PG_isOnWire_13 (by decide) k) ?_
  refine S_icmp_gt d_PG_isOnWire_14 rfl (fun _ => ?_) (fun c => by first | exact absurd c (by omega) | exact c.elim | exact absurd c (by decide) | exact absurd (by assumption) c | exact absurd c (by assumption) | exact absurd c (Int32.not_le.mpr (by assumption)))
  refine ST.lift (fun _ _ k => T_iconst (v := nI 0) d_PG_isOnWire_41 (by decide) k) ?_
  refine S_topi (y := nI 0) (congrArg nI (by omega)) ?_
  exact S_ret d_PG_isOnWire_42 rfl (nar_z (by omega)) (by decide) (by decide) (hQ _ hv hm)
set_option maxRecDepth 100000 in
set_option maxHeartbeats 4000000 in
theorem c_PG_tamper_2_mgt (G : GX) (v : Nat → Int32) (y : Int32) (z : Int32) (mask : Int32) (h0_m : ¬ y < nI 1) (hy_m : nI 3 < y) (hv : okv v) : CS G mi_PG_tamper [.ref 61, .int (nI 2), .int y, .int z, .int mask] v (fun r v' => r = some (.int (nI 0)) ∧ okv v' ∧ mdf [] v v') := by
  refine CS.of (by decide) (Nat.le_of_ble_eq_true rfl) ?_
  generalize hQe : (fun (r : Option Value) (v' : Nat → Int32) => r = some (.int (nI 0)) ∧ okv v' ∧ mdf [] v v') = Q
  have hQ : ∀ u, okv u → mdf [] v u → Q (some (.int (nI 0))) u := by rw [← hQe]; exact fun u h1 h2  => ⟨rfl, h1, h2⟩
  clear hQe
  have hm : mdf [] v v := mdf.rf
  show ST G mi_PG_tamper 0 [(0, .ref 61), (1, .int (nI 2)), (2, .int y), (3, .int z), (4, .int mask)] [] v 0 0 Q
  refine ST.lift (fun _ _ k => T_aload_n (v := .ref 61) d_PG_tamper_0 rfl (Or.inr ⟨_, rfl⟩) k) ?_
  refine ST.lift (fun _ _ k => T_iload_n d_PG_tamper_1 rfl k) ?_
  refine ST.lift (fun _ _ k => T_iload_n d_PG_tamper_2 rfl k) ?_
  refine ST.lift (fun _ _ k => T_iload_n d_PG_tamper_3 rfl k) ?_
  refine S_virtual (as := [.int (nI 2), .int y, .int z]) (rest := []) (b := 61) d_PG_tamper_4 rfl (jw_PG_isOnWire.jo (by decide)) lm_PG_154 ji_PG_isOnWire js_PG_isOnWire (w61 _) rfl rfl rfl (Nat.le_of_ble_eq_true rfl) (by decide) (by decide) (c_PG_isOnWire_2_mgt G v y z h0_m hy_m hv) (fun r u1 hq => ?_)
  obtain ⟨hr, hv2, hm3⟩ := hq
  rw [hr]
  clear hr r
  have hm4 := hm.go hm3 (by intro i hi; simp only [List.mem_cons, List.not_mem_nil, or_false] at hi ⊢ <;> omega)
  show ST G mi_PG_tamper 7 [(0, .ref 61), (1, .int (nI 2)), (2, .int y), (3, .int z), (4, .int mask)] [.int (nI 0)] u1 0 0 _
  refine S_if_neN d_PG_tamper_7 rfl (by omega) (fun c => by first | exact absurd c (by omega) | exact c.elim | exact absurd c (by decide) | exact absurd (by assumption) c | exact absurd c (by assumption) | exact absurd c (Int32.not_le.mpr (by assumption))) (fun _ => ?_)
  refine ST.lift (fun _ _ k => T_iconst (v := nI 0) d_PG_tamper_10 (by decide) k) ?_
  refine S_topi (y := nI 0) (congrArg nI (by omega)) ?_
  exact S_ret d_PG_tamper_11 rfl (nar_z (by omega)) (by decide) (by decide) (hQ _ hv2 hm4)
set_option maxRecDepth 100000 in
set_option maxHeartbeats 4000000 in
theorem c_PG_isOnWire_2_1_neg (G : GX) (v : Nat → Int32) (z : Int32) (hz_n : z < 0) (hv : okv v) : CS G mi_PG_isOnWire [.ref 61, .int (nI 2), .int (nI 1), .int z] v (fun r v' => r = some (.int (nI 0)) ∧ okv v' ∧ mdf [] v v') := by
  refine CS.of (by decide) (Nat.le_of_ble_eq_true rfl) ?_
  generalize hQe : (fun (r : Option Value) (v' : Nat → Int32) => r = some (.int (nI 0)) ∧ okv v' ∧ mdf [] v v') = Q
  have hQ : ∀ u, okv u → mdf [] v u → Q (some (.int (nI 0))) u := by rw [← hQe]; exact fun u h1 h2  => ⟨rfl, h1, h2⟩
  clear hQe
  have hm : mdf [] v v := mdf.rf
  show ST G mi_PG_isOnWire 0 [(0, .ref 61), (1, .int (nI 2)), (2, .int (nI 1)), (3, .int z)] [] v 0 0 Q
  refine ST.lift (fun _ _ k => T_iload_n d_PG_isOnWire_0 rfl k) ?_
  refine S_static (as := [.int (nI 2)]) (rest := []) d_PG_isOnWire_1 rfl (jw_PG_isSession.jo (by decide)) lm_PG_133 jt_PG_isSession rfl (Nat.le_of_ble_eq_true rfl) (by decide) (by decide) (c_PG_isSession G v 2 (by omega)) (fun r v' hq => ?_)
  rw [hq.1, hq.2]
  clear hq r v'
  show ST G mi_PG_isOnWire 4 [(0, .ref 61), (1, .int (nI 2)), (2, .int (nI 1)), (3, .int z)] [.int (nI 1)] v 0 0 _
  refine S_if_eqN d_PG_isOnWire_4 rfl (by omega) (fun c => by first | exact absurd c (by omega) | exact c.elim | exact absurd c (by decide) | exact absurd (by assumption) c | exact absurd c (by assumption) | exact absurd c (Int32.not_le.mpr (by assumption))) (fun _ => ?_)
  refine ST.lift (fun _ _ k => T_iload_n d_PG_isOnWire_7 rfl k) ?_
  refine ST.lift (fun _ _ k => T_iconst (v := nI 1) d_PG_isOnWire_8 (by decide) k) ?_
  refine S_icmp_ltN d_PG_isOnWire_9 rfl (by omega) (by omega) (fun c => by first | exact absurd c (by omega) | exact c.elim | exact absurd c (by decide) | exact absurd (by assumption) c | exact absurd c (by assumption) | exact absurd c (Int32.not_le.mpr (by assumption))) (fun _ => ?_)
  refine ST.lift (fun _ _ k => T_iload_n d_PG_isOnWire_12 rfl k) ?_
  refine ST.lift (fun _ _ k => T_iconst (v := nI 3) d_PG_isOnWire_13 (by decide) k) ?_
  refine S_icmp_gtN d_PG_isOnWire_14 rfl (by omega) (by omega) (fun c => by first | exact absurd c (by omega) | exact c.elim | exact absurd c (by decide) | exact absurd (by assumption) c | exact absurd c (by assumption) | exact absurd c (Int32.not_le.mpr (by assumption))) (fun _ => ?_)
  refine ST.lift (fun _ _ k => T_aload_n (v := .ref 61) d_PG_isOnWire_17 rfl (Or.inr ⟨_, rfl⟩) k) ?_
  refine S_getfield d_PG_isOnWire_18 fg_PG_34 (w61 _) rfl ?_
  refine ST.lift (fun _ _ k => T_iload_n d_PG_isOnWire_21 rfl k) ?_
  refine S_aaload (C0 := "PasswordGate$Session") d_PG_isOnWire_22 (by decide) (w264 _) rfl (vp_in_nI (by omega) (by omega)) ?_
  refine S_getfield d_PG_isOnWire_23 fg_PG_158 (w317 _) rfl ?_
  refine ST.lift (fun _ _ k => T_iload_n d_PG_isOnWire_26 rfl k) ?_
  refine ST.lift (fun _ _ k => T_iconst (v := nI 1) d_PG_isOnWire_27 (by decide) k) ?_
  refine S_isubN d_PG_isOnWire_28 (by omega) ?_
  refine S_topi (y := nI 0) (by decide) ?_
  refine S_aaload (C0 := "PasswordGate$Bytes") d_PG_isOnWire_29 (by decide) (w318 _) rfl (vp_in_nI (by omega) (by omega)) ?_
  refine ST.lift (fun _ _ k => T_iload_n d_PG_isOnWire_30 rfl k) ?_
  refine S_virtual (as := [.int z]) (rest := []) (b := 331) d_PG_isOnWire_31 rfl (jw_By_has.jo (by decide)) lm_PG_119 ji_By_has js_By_has (w331 _) rfl rfl rfl (Nat.le_of_ble_eq_true rfl) (by decide) (by decide) (c_By_has_neg G v 331 332 96 48 ⟨w331, a332, by decide, u331_1, by decide, by decide⟩ z hz_n hv) (fun r u1 hq => ?_)
  obtain ⟨hr, hv2, hm3⟩ := hq
  rw [hr]
  clear hr r
  have hm4 := hm.go hm3 (by intro i hi; simp only [List.mem_cons, List.not_mem_nil, or_false] at hi ⊢ <;> omega)
  show ST G mi_PG_isOnWire 34 [(0, .ref 61), (1, .int (nI 2)), (2, .int (nI 1)), (3, .int z)] [.int (nI 0)] u1 0 0 _
  refine S_if_eqN d_PG_isOnWire_34 rfl (by omega) (fun _ => ?_) (fun c => by first | exact absurd c (by omega) | exact c.elim | exact absurd c (by decide) | exact absurd (by assumption) c | exact absurd c (by assumption) | exact absurd c (Int32.not_le.mpr (by assumption)))
  refine ST.lift (fun _ _ k => T_iconst (v := nI 0) d_PG_isOnWire_41 (by decide) k) ?_
  refine S_topi (y := nI 0) (congrArg nI (by omega)) ?_
  exact S_ret d_PG_isOnWire_42 rfl (nar_z (by omega)) (by decide) (by decide) (hQ _ hv2 hm4)
set_option maxRecDepth 100000 in
set_option maxHeartbeats 4000000 in
theorem c_PG_tamper_2_1_neg (G : GX) (v : Nat → Int32) (z : Int32) (mask : Int32) (hz_n : z < 0) (hv : okv v) : CS G mi_PG_tamper [.ref 61, .int (nI 2), .int (nI 1), .int z, .int mask] v (fun r v' => r = some (.int (nI 0)) ∧ okv v' ∧ mdf [] v v') := by
  refine CS.of (by decide) (Nat.le_of_ble_eq_true rfl) ?_
  generalize hQe : (fun (r : Option Value) (v' : Nat → Int32) => r = some (.int (nI 0)) ∧ okv v' ∧ mdf [] v v') = Q
  have hQ : ∀ u, okv u → mdf [] v u → Q (some (.int (nI 0))) u := by rw [← hQe]; exact fun u h1 h2  => ⟨rfl, h1, h2⟩
  clear hQe
  have hm : mdf [] v v := mdf.rf
  show ST G mi_PG_tamper 0 [(0, .ref 61), (1, .int (nI 2)), (2, .int (nI 1)), (3, .int z), (4, .int mask)] [] v 0 0 Q
  refine ST.lift (fun _ _ k => T_aload_n (v := .ref 61) d_PG_tamper_0 rfl (Or.inr ⟨_, rfl⟩) k) ?_
  refine ST.lift (fun _ _ k => T_iload_n d_PG_tamper_1 rfl k) ?_
  refine ST.lift (fun _ _ k => T_iload_n d_PG_tamper_2 rfl k) ?_
  refine ST.lift (fun _ _ k => T_iload_n d_PG_tamper_3 rfl k) ?_
  refine S_virtual (as := [.int (nI 2), .int (nI 1), .int z]) (rest := []) (b := 61) d_PG_tamper_4 rfl (jw_PG_isOnWire.jo (by decide)) lm_PG_154 ji_PG_isOnWire js_PG_isOnWire (w61 _) rfl rfl rfl (Nat.le_of_ble_eq_true rfl) (by decide) (by decide) (c_PG_isOnWire_2_1_neg G v z hz_n hv) (fun r u1 hq => ?_)
  obtain ⟨hr, hv2, hm3⟩ := hq
  rw [hr]
  clear hr r
  have hm4 := hm.go hm3 (by intro i hi; simp only [List.mem_cons, List.not_mem_nil, or_false] at hi ⊢ <;> omega)
  show ST G mi_PG_tamper 7 [(0, .ref 61), (1, .int (nI 2)), (2, .int (nI 1)), (3, .int z), (4, .int mask)] [.int (nI 0)] u1 0 0 _
  refine S_if_neN d_PG_tamper_7 rfl (by omega) (fun c => by first | exact absurd c (by omega) | exact c.elim | exact absurd c (by decide) | exact absurd (by assumption) c | exact absurd c (by assumption) | exact absurd c (Int32.not_le.mpr (by assumption))) (fun _ => ?_)
  refine ST.lift (fun _ _ k => T_iconst (v := nI 0) d_PG_tamper_10 (by decide) k) ?_
  refine S_topi (y := nI 0) (congrArg nI (by omega)) ?_
  exact S_ret d_PG_tamper_11 rfl (nar_z (by omega)) (by decide) (by decide) (hQ _ hv2 hm4)
set_option maxRecDepth 100000 in
set_option maxHeartbeats 4000000 in
theorem c_PG_isOnWire_2_1_out (G : GX) (v : Nat → Int32) (i : Nat) (b_i : i < 2147483648) (k : Nat) (e48 : v 48 = nI k) (hk : k ≤ i ∧ k ≤ 96) (hv : okv v) : CS G mi_PG_isOnWire [.ref 61, .int (nI 2), .int (nI 1), .int (nI i)] v (fun r v' => r = some (.int (nI 0)) ∧ okv v' ∧ mdf [] v v' ∧ v' 48 = nI k) := by
  refine CS.of (by decide) (Nat.le_of_ble_eq_true rfl) ?_
  generalize hQe : (fun (r : Option Value) (v' : Nat → Int32) => r = some (.int (nI 0)) ∧ okv v' ∧ mdf [] v v' ∧ v' 48 = nI k) = Q
  have hQ : ∀ u, okv u → mdf [] v u → u 48 = nI k → Q (some (.int (nI 0))) u := by rw [← hQe]; exact fun u h1 h2 f0 => ⟨rfl, h1, h2, f0⟩
  clear hQe
  have hm : mdf [] v v := mdf.rf
  show ST G mi_PG_isOnWire 0 [(0, .ref 61), (1, .int (nI 2)), (2, .int (nI 1)), (3, .int (nI i))] [] v 0 0 Q
  refine ST.lift (fun _ _ k => T_iload_n d_PG_isOnWire_0 rfl k) ?_
  refine S_static (as := [.int (nI 2)]) (rest := []) d_PG_isOnWire_1 rfl (jw_PG_isSession.jo (by decide)) lm_PG_133 jt_PG_isSession rfl (Nat.le_of_ble_eq_true rfl) (by decide) (by decide) (c_PG_isSession G v 2 (by omega)) (fun r v' hq => ?_)
  rw [hq.1, hq.2]
  clear hq r v'
  show ST G mi_PG_isOnWire 4 [(0, .ref 61), (1, .int (nI 2)), (2, .int (nI 1)), (3, .int (nI i))] [.int (nI 1)] v 0 0 _
  refine S_if_eqN d_PG_isOnWire_4 rfl (by omega) (fun c => by first | exact absurd c (by omega) | exact c.elim | exact absurd c (by decide) | exact absurd (by assumption) c | exact absurd c (by assumption) | exact absurd c (Int32.not_le.mpr (by assumption))) (fun _ => ?_)
  refine ST.lift (fun _ _ k => T_iload_n d_PG_isOnWire_7 rfl k) ?_
  refine ST.lift (fun _ _ k => T_iconst (v := nI 1) d_PG_isOnWire_8 (by decide) k) ?_
  refine S_icmp_ltN d_PG_isOnWire_9 rfl (by omega) (by omega) (fun c => by first | exact absurd c (by omega) | exact c.elim | exact absurd c (by decide) | exact absurd (by assumption) c | exact absurd c (by assumption) | exact absurd c (Int32.not_le.mpr (by assumption))) (fun _ => ?_)
  refine ST.lift (fun _ _ k => T_iload_n d_PG_isOnWire_12 rfl k) ?_
  refine ST.lift (fun _ _ k => T_iconst (v := nI 3) d_PG_isOnWire_13 (by decide) k) ?_
  refine S_icmp_gtN d_PG_isOnWire_14 rfl (by omega) (by omega) (fun c => by first | exact absurd c (by omega) | exact c.elim | exact absurd c (by decide) | exact absurd (by assumption) c | exact absurd c (by assumption) | exact absurd c (Int32.not_le.mpr (by assumption))) (fun _ => ?_)
  refine ST.lift (fun _ _ k => T_aload_n (v := .ref 61) d_PG_isOnWire_17 rfl (Or.inr ⟨_, rfl⟩) k) ?_
  refine S_getfield d_PG_isOnWire_18 fg_PG_34 (w61 _) rfl ?_
  refine ST.lift (fun _ _ k => T_iload_n d_PG_isOnWire_21 rfl k) ?_
  refine S_aaload (C0 := "PasswordGate$Session") d_PG_isOnWire_22 (by decide) (w264 _) rfl (vp_in_nI (by omega) (by omega)) ?_
  refine S_getfield d_PG_isOnWire_23 fg_PG_158 (w317 _) rfl ?_
  refine ST.lift (fun _ _ k => T_iload_n d_PG_isOnWire_26 rfl k) ?_
  refine ST.lift (fun _ _ k => T_iconst (v := nI 1) d_PG_isOnWire_27 (by decide) k) ?_
  refine S_isubN d_PG_isOnWire_28 (by omega) ?_
  refine S_topi (y := nI 0) (by decide) ?_
  refine S_aaload (C0 := "PasswordGate$Bytes") d_PG_isOnWire_29 (by decide) (w318 _) rfl (vp_in_nI (by omega) (by omega)) ?_
  refine ST.lift (fun _ _ k => T_iload_n d_PG_isOnWire_30 rfl k) ?_
  refine S_virtual (as := [.int (nI i)]) (rest := []) (b := 331) d_PG_isOnWire_31 rfl (jw_By_has.jo (by decide)) lm_PG_119 ji_By_has js_By_has (w331 _) rfl rfl rfl (Nat.le_of_ble_eq_true rfl) (by decide) (by decide) (c_By_has_out G v 331 332 96 48 ⟨w331, a332, by decide, u331_1, by decide, by decide⟩ i (by omega) k e48 (by omega) hv) (fun r u1 hq => ?_)
  obtain ⟨hr, hv2, hm3, fe0_u1⟩ := hq
  rw [hr]
  clear hr r
  have hm4 := hm.go hm3 (by intro i hi; simp only [List.mem_cons, List.not_mem_nil, or_false] at hi ⊢ <;> omega)
  have e5 : u1 48 = nI k := (hm3 48 (by decide)).trans e48
  show ST G mi_PG_isOnWire 34 [(0, .ref 61), (1, .int (nI 2)), (2, .int (nI 1)), (3, .int (nI i))] [.int (nI 0)] u1 0 0 _
  refine S_if_eqN d_PG_isOnWire_34 rfl (by omega) (fun _ => ?_) (fun c => by first | exact absurd c (by omega) | exact c.elim | exact absurd c (by decide) | exact absurd (by assumption) c | exact absurd c (by assumption) | exact absurd c (Int32.not_le.mpr (by assumption)))
  refine ST.lift (fun _ _ k => T_iconst (v := nI 0) d_PG_isOnWire_41 (by decide) k) ?_
  refine S_topi (y := nI 0) (congrArg nI (by omega)) ?_
  exact S_ret d_PG_isOnWire_42 rfl (nar_z (by omega)) (by decide) (by decide) (hQ _ hv2 hm4 (fe0_u1.trans (congrArg nI (by omega))))
set_option maxRecDepth 100000 in
set_option maxHeartbeats 4000000 in
theorem c_PG_tamper_2_1_out (G : GX) (v : Nat → Int32) (i : Nat) (b_i : i < 2147483648) (mask : Int32) (k : Nat) (e48 : v 48 = nI k) (hk : k ≤ i ∧ k ≤ 96) (hv : okv v) : CS G mi_PG_tamper [.ref 61, .int (nI 2), .int (nI 1), .int (nI i), .int mask] v (fun r v' => r = some (.int (nI 0)) ∧ okv v' ∧ mdf [] v v' ∧ v' 48 = nI k) := by
  refine CS.of (by decide) (Nat.le_of_ble_eq_true rfl) ?_
  generalize hQe : (fun (r : Option Value) (v' : Nat → Int32) => r = some (.int (nI 0)) ∧ okv v' ∧ mdf [] v v' ∧ v' 48 = nI k) = Q
  have hQ : ∀ u, okv u → mdf [] v u → u 48 = nI k → Q (some (.int (nI 0))) u := by rw [← hQe]; exact fun u h1 h2 f0 => ⟨rfl, h1, h2, f0⟩
  clear hQe
  have hm : mdf [] v v := mdf.rf
  show ST G mi_PG_tamper 0 [(0, .ref 61), (1, .int (nI 2)), (2, .int (nI 1)), (3, .int (nI i)), (4, .int mask)] [] v 0 0 Q
  refine ST.lift (fun _ _ k => T_aload_n (v := .ref 61) d_PG_tamper_0 rfl (Or.inr ⟨_, rfl⟩) k) ?_
  refine ST.lift (fun _ _ k => T_iload_n d_PG_tamper_1 rfl k) ?_
  refine ST.lift (fun _ _ k => T_iload_n d_PG_tamper_2 rfl k) ?_
  refine ST.lift (fun _ _ k => T_iload_n d_PG_tamper_3 rfl k) ?_
  refine S_virtual (as := [.int (nI 2), .int (nI 1), .int (nI i)]) (rest := []) (b := 61) d_PG_tamper_4 rfl (jw_PG_isOnWire.jo (by decide)) lm_PG_154 ji_PG_isOnWire js_PG_isOnWire (w61 _) rfl rfl rfl (Nat.le_of_ble_eq_true rfl) (by decide) (by decide) (c_PG_isOnWire_2_1_out G v i (by omega) k e48 (by omega) hv) (fun r u1 hq => ?_)
  obtain ⟨hr, hv2, hm3, fe0_u1⟩ := hq
  rw [hr]
  clear hr r
  have hm4 := hm.go hm3 (by intro i hi; simp only [List.mem_cons, List.not_mem_nil, or_false] at hi ⊢ <;> omega)
  have e5 : u1 48 = nI k := (hm3 48 (by decide)).trans e48
  show ST G mi_PG_tamper 7 [(0, .ref 61), (1, .int (nI 2)), (2, .int (nI 1)), (3, .int (nI i)), (4, .int mask)] [.int (nI 0)] u1 0 0 _
  refine S_if_neN d_PG_tamper_7 rfl (by omega) (fun c => by first | exact absurd c (by omega) | exact c.elim | exact absurd c (by decide) | exact absurd (by assumption) c | exact absurd c (by assumption) | exact absurd c (Int32.not_le.mpr (by assumption))) (fun _ => ?_)
  refine ST.lift (fun _ _ k => T_iconst (v := nI 0) d_PG_tamper_10 (by decide) k) ?_
  refine S_topi (y := nI 0) (congrArg nI (by omega)) ?_
  exact S_ret d_PG_tamper_11 rfl (nar_z (by omega)) (by decide) (by decide) (hQ _ hv2 hm4 (fe0_u1.trans (congrArg nI (by omega))))
set_option maxRecDepth 100000 in
set_option maxHeartbeats 4000000 in
theorem c_PG_isOnWire_2_1_in (G : GX) (v : Nat → Int32) (i : Nat) (b_i : i < 2147483648) (k : Nat) (e48 : v 48 = nI k) (hk : i < k ∧ k ≤ 96) (hv : okv v) : CS G mi_PG_isOnWire [.ref 61, .int (nI 2), .int (nI 1), .int (nI i)] v (fun r v' => r = some (.int (nI 1)) ∧ okv v' ∧ mdf [] v v' ∧ v' 48 = nI k) := by
  refine CS.of (by decide) (Nat.le_of_ble_eq_true rfl) ?_
  generalize hQe : (fun (r : Option Value) (v' : Nat → Int32) => r = some (.int (nI 1)) ∧ okv v' ∧ mdf [] v v' ∧ v' 48 = nI k) = Q
  have hQ : ∀ u, okv u → mdf [] v u → u 48 = nI k → Q (some (.int (nI 1))) u := by rw [← hQe]; exact fun u h1 h2 f0 => ⟨rfl, h1, h2, f0⟩
  clear hQe
  have hm : mdf [] v v := mdf.rf
  show ST G mi_PG_isOnWire 0 [(0, .ref 61), (1, .int (nI 2)), (2, .int (nI 1)), (3, .int (nI i))] [] v 0 0 Q
  refine ST.lift (fun _ _ k => T_iload_n d_PG_isOnWire_0 rfl k) ?_
  refine S_static (as := [.int (nI 2)]) (rest := []) d_PG_isOnWire_1 rfl (jw_PG_isSession.jo (by decide)) lm_PG_133 jt_PG_isSession rfl (Nat.le_of_ble_eq_true rfl) (by decide) (by decide) (c_PG_isSession G v 2 (by omega)) (fun r v' hq => ?_)
  rw [hq.1, hq.2]
  clear hq r v'
  show ST G mi_PG_isOnWire 4 [(0, .ref 61), (1, .int (nI 2)), (2, .int (nI 1)), (3, .int (nI i))] [.int (nI 1)] v 0 0 _
  refine S_if_eqN d_PG_isOnWire_4 rfl (by omega) (fun c => by first | exact absurd c (by omega) | exact c.elim | exact absurd c (by decide) | exact absurd (by assumption) c | exact absurd c (by assumption) | exact absurd c (Int32.not_le.mpr (by assumption))) (fun _ => ?_)
  refine ST.lift (fun _ _ k => T_iload_n d_PG_isOnWire_7 rfl k) ?_
  refine ST.lift (fun _ _ k => T_iconst (v := nI 1) d_PG_isOnWire_8 (by decide) k) ?_
  refine S_icmp_ltN d_PG_isOnWire_9 rfl (by omega) (by omega) (fun c => by first | exact absurd c (by omega) | exact c.elim | exact absurd c (by decide) | exact absurd (by assumption) c | exact absurd c (by assumption) | exact absurd c (Int32.not_le.mpr (by assumption))) (fun _ => ?_)
  refine ST.lift (fun _ _ k => T_iload_n d_PG_isOnWire_12 rfl k) ?_
  refine ST.lift (fun _ _ k => T_iconst (v := nI 3) d_PG_isOnWire_13 (by decide) k) ?_
  refine S_icmp_gtN d_PG_isOnWire_14 rfl (by omega) (by omega) (fun c => by first | exact absurd c (by omega) | exact c.elim | exact absurd c (by decide) | exact absurd (by assumption) c | exact absurd c (by assumption) | exact absurd c (Int32.not_le.mpr (by assumption))) (fun _ => ?_)
  refine ST.lift (fun _ _ k => T_aload_n (v := .ref 61) d_PG_isOnWire_17 rfl (Or.inr ⟨_, rfl⟩) k) ?_
  refine S_getfield d_PG_isOnWire_18 fg_PG_34 (w61 _) rfl ?_
  refine ST.lift (fun _ _ k => T_iload_n d_PG_isOnWire_21 rfl k) ?_
  refine S_aaload (C0 := "PasswordGate$Session") d_PG_isOnWire_22 (by decide) (w264 _) rfl (vp_in_nI (by omega) (by omega)) ?_
  refine S_getfield d_PG_isOnWire_23 fg_PG_158 (w317 _) rfl ?_
  refine ST.lift (fun _ _ k => T_iload_n d_PG_isOnWire_26 rfl k) ?_
  refine ST.lift (fun _ _ k => T_iconst (v := nI 1) d_PG_isOnWire_27 (by decide) k) ?_
  refine S_isubN d_PG_isOnWire_28 (by omega) ?_
  refine S_topi (y := nI 0) (by decide) ?_
  refine S_aaload (C0 := "PasswordGate$Bytes") d_PG_isOnWire_29 (by decide) (w318 _) rfl (vp_in_nI (by omega) (by omega)) ?_
  refine ST.lift (fun _ _ k => T_iload_n d_PG_isOnWire_30 rfl k) ?_
  refine S_virtual (as := [.int (nI i)]) (rest := []) (b := 331) d_PG_isOnWire_31 rfl (jw_By_has.jo (by decide)) lm_PG_119 ji_By_has js_By_has (w331 _) rfl rfl rfl (Nat.le_of_ble_eq_true rfl) (by decide) (by decide) (c_By_has_in G v 331 332 96 48 ⟨w331, a332, by decide, u331_1, by decide, by decide⟩ i (by omega) k e48 (by omega) hv) (fun r u1 hq => ?_)
  obtain ⟨hr, hv2, hm3, fe0_u1⟩ := hq
  rw [hr]
  clear hr r
  have hm4 := hm.go hm3 (by intro i hi; simp only [List.mem_cons, List.not_mem_nil, or_false] at hi ⊢ <;> omega)
  have e5 : u1 48 = nI k := (hm3 48 (by decide)).trans e48
  show ST G mi_PG_isOnWire 34 [(0, .ref 61), (1, .int (nI 2)), (2, .int (nI 1)), (3, .int (nI i))] [.int (nI 1)] u1 0 0 _
  refine S_if_eqN d_PG_isOnWire_34 rfl (by omega) (fun c => by first | exact absurd c (by omega) | exact c.elim | exact absurd c (by decide) | exact absurd (by assumption) c | exact absurd c (by assumption) | exact absurd c (Int32.not_le.mpr (by assumption))) (fun _ => ?_)
  refine ST.lift (fun _ _ k => T_iconst (v := nI 1) d_PG_isOnWire_37 (by decide) k) ?_
  refine ST.lift (fun _ _ k => T_goto (tgt := 42) d_PG_isOnWire_38 rfl k) ?_
  refine S_topi (y := nI 1) (congrArg nI (by omega)) ?_
  exact S_ret d_PG_isOnWire_42 rfl (nar_z (by omega)) (by decide) (by decide) (hQ _ hv2 hm4 (fe0_u1.trans (congrArg nI (by omega))))
set_option maxRecDepth 100000 in
set_option maxHeartbeats 4000000 in
theorem c_PG_wire_2_1_in (G : GX) (v : Nat → Int32) (i : Nat) (b_i : i < 2147483648) (k : Nat) (e48 : v 48 = nI k) (hk : i < k ∧ k ≤ 96) (hv : okv v) : CS G mi_PG_wire [.ref 61, .int (nI 2), .int (nI 1), .int (nI i)] v (fun r v' => ∃ z : Int32, r = some (.int z) ∧ okv v' ∧ mdf [] v v' ∧ v' 48 = nI k) := by
  refine CS.of (by decide) (Nat.le_of_ble_eq_true rfl) ?_
  generalize hQe : (fun (r : Option Value) (v' : Nat → Int32) => ∃ z : Int32, r = some (.int z) ∧ okv v' ∧ mdf [] v v' ∧ v' 48 = nI k) = Q
  have hQ : ∀ (z : Int32) (u : Nat → Int32), okv u → mdf [] v u → u 48 = nI k → Q (some (.int z)) u := by rw [← hQe]; exact fun z u h1 h2 f0 => ⟨z, rfl, h1, h2, f0⟩
  clear hQe
  have hm : mdf [] v v := mdf.rf
  show ST G mi_PG_wire 0 [(0, .ref 61), (1, .int (nI 2)), (2, .int (nI 1)), (3, .int (nI i))] [] v 0 0 Q
  refine ST.lift (fun _ _ k => T_aload_n (v := .ref 61) d_PG_wire_0 rfl (Or.inr ⟨_, rfl⟩) k) ?_
  refine ST.lift (fun _ _ k => T_iload_n d_PG_wire_1 rfl k) ?_
  refine ST.lift (fun _ _ k => T_iload_n d_PG_wire_2 rfl k) ?_
  refine ST.lift (fun _ _ k => T_iload_n d_PG_wire_3 rfl k) ?_
  refine S_virtual (as := [.int (nI 2), .int (nI 1), .int (nI i)]) (rest := []) (b := 61) d_PG_wire_4 rfl (jw_PG_isOnWire.jo (by decide)) lm_PG_154 ji_PG_isOnWire js_PG_isOnWire (w61 _) rfl rfl rfl (Nat.le_of_ble_eq_true rfl) (by decide) (by decide) (c_PG_isOnWire_2_1_in G v i (by omega) k e48 (by omega) hv) (fun r u1 hq => ?_)
  obtain ⟨hr, hv2, hm3, fe0_u1⟩ := hq
  rw [hr]
  clear hr r
  have hm4 := hm.go hm3 (by intro i hi; simp only [List.mem_cons, List.not_mem_nil, or_false] at hi ⊢ <;> omega)
  have e5 : u1 48 = nI k := (hm3 48 (by decide)).trans e48
  show ST G mi_PG_wire 7 [(0, .ref 61), (1, .int (nI 2)), (2, .int (nI 1)), (3, .int (nI i))] [.int (nI 1)] u1 0 0 _
  refine S_if_neN d_PG_wire_7 rfl (by omega) (fun _ => ?_) (fun c => by first | exact absurd c (by omega) | exact c.elim | exact absurd c (by decide) | exact absurd (by assumption) c | exact absurd c (by assumption) | exact absurd c (Int32.not_le.mpr (by assumption)))
  refine ST.lift (fun _ _ k => T_aload_n (v := .ref 61) d_PG_wire_18 rfl (Or.inr ⟨_, rfl⟩) k) ?_
  refine S_getfield d_PG_wire_19 fg_PG_34 (w61 _) rfl ?_
  refine ST.lift (fun _ _ k => T_iload_n d_PG_wire_22 rfl k) ?_
  refine S_aaload (C0 := "PasswordGate$Session") d_PG_wire_23 (by decide) (w264 _) rfl (vp_in_nI (by omega) (by omega)) ?_
  refine S_getfield d_PG_wire_24 fg_PG_158 (w317 _) rfl ?_
  refine ST.lift (fun _ _ k => T_iload_n d_PG_wire_27 rfl k) ?_
  refine ST.lift (fun _ _ k => T_iconst (v := nI 1) d_PG_wire_28 (by decide) k) ?_
  refine S_isubN d_PG_wire_29 (by omega) ?_
  refine S_topi (y := nI 0) (by decide) ?_
  refine S_aaload (C0 := "PasswordGate$Bytes") d_PG_wire_30 (by decide) (w318 _) rfl (vp_in_nI (by omega) (by omega)) ?_
  refine S_getfield d_PG_wire_31 fg_PG_93 (w331 _) rfl ?_
  refine ST.lift (fun _ _ k => T_iload_n d_PG_wire_34 rfl k) ?_
  refine S_baload d_PG_wire_35 a332 (vp_in_nI (by omega) (by omega)) (fun z6 hz6 => ?_)
  refine ST.lift (fun _ _ k => T_sipush (v := nI 255) d_PG_wire_36 (by decide) k) ?_
  refine S_iandM 8 d_PG_wire_39 (by decide) (by decide) (fun j7 hj7 => ?_)
  simp only [Nat.reducePow] at hj7
  exact S_ret d_PG_wire_40 rfl rfl (by decide) (by decide) (hQ _ _ hv2 hm4 (fe0_u1.trans (congrArg nI (by omega))))
set_option maxRecDepth 100000 in
set_option maxHeartbeats 4000000 in
theorem c_PG_isOnWire_2_2_neg (G : GX) (v : Nat → Int32) (z : Int32) (hz_n : z < 0) (hv : okv v) : CS G mi_PG_isOnWire [.ref 61, .int (nI 2), .int (nI 2), .int z] v (fun r v' => r = some (.int (nI 0)) ∧ okv v' ∧ mdf [] v v') := by
  refine CS.of (by decide) (Nat.le_of_ble_eq_true rfl) ?_
  generalize hQe : (fun (r : Option Value) (v' : Nat → Int32) => r = some (.int (nI 0)) ∧ okv v' ∧ mdf [] v v') = Q
  have hQ : ∀ u, okv u → mdf [] v u → Q (some (.int (nI 0))) u := by rw [← hQe]; exact fun u h1 h2  => ⟨rfl, h1, h2⟩
  clear hQe
  have hm : mdf [] v v := mdf.rf
  show ST G mi_PG_isOnWire 0 [(0, .ref 61), (1, .int (nI 2)), (2, .int (nI 2)), (3, .int z)] [] v 0 0 Q
  refine ST.lift (fun _ _ k => T_iload_n d_PG_isOnWire_0 rfl k) ?_
  refine S_static (as := [.int (nI 2)]) (rest := []) d_PG_isOnWire_1 rfl (jw_PG_isSession.jo (by decide)) lm_PG_133 jt_PG_isSession rfl (Nat.le_of_ble_eq_true rfl) (by decide) (by decide) (c_PG_isSession G v 2 (by omega)) (fun r v' hq => ?_)
  rw [hq.1, hq.2]
  clear hq r v'
  show ST G mi_PG_isOnWire 4 [(0, .ref 61), (1, .int (nI 2)), (2, .int (nI 2)), (3, .int z)] [.int (nI 1)] v 0 0 _
  refine S_if_eqN d_PG_isOnWire_4 rfl (by omega) (fun c => by first | exact absurd c (by omega) | exact c.elim | exact absurd c (by decide) | exact absurd (by assumption) c | exact absurd c (by assumption) | exact absurd c (Int32.not_le.mpr (by assumption))) (fun _ => ?_)
  refine ST.lift (fun _ _ k => T_iload_n d_PG_isOnWire_7 rfl k) ?_
  refine ST.lift (fun _ _ k => T_iconst (v := nI 1) d_PG_isOnWire_8 (by decide) k) ?_
  refine S_icmp_ltN d_PG_isOnWire_9 rfl (by omega) (by omega) (fun c => by first | exact absurd c (by omega) | exact c.elim | exact absurd c (by decide) | exact absurd (by assumption) c | exact absurd c (by assumption) | exact absurd c (Int32.not_le.mpr (by assumption))) (fun _ => ?_)
  refine ST.lift (fun _ _ k => T_iload_n d_PG_isOnWire_12 rfl k) ?_
  refine ST.lift (fun _ _ k => T_iconst (v := nI 3) d_PG_isOnWire_13 (by decide) k) ?_
  refine S_icmp_gtN d_PG_isOnWire_14 rfl (by omega) (by omega) (fun c => by first | exact absurd c (by omega) | exact c.elim | exact absurd c (by decide) | exact absurd (by assumption) c | exact absurd c (by assumption) | exact absurd c (Int32.not_le.mpr (by assumption))) (fun _ => ?_)
  refine ST.lift (fun _ _ k => T_aload_n (v := .ref 61) d_PG_isOnWire_17 rfl (Or.inr ⟨_, rfl⟩) k) ?_
  refine S_getfield d_PG_isOnWire_18 fg_PG_34 (w61 _) rfl ?_
  refine ST.lift (fun _ _ k => T_iload_n d_PG_isOnWire_21 rfl k) ?_
  refine S_aaload (C0 := "PasswordGate$Session") d_PG_isOnWire_22 (by decide) (w264 _) rfl (vp_in_nI (by omega) (by omega)) ?_
  refine S_getfield d_PG_isOnWire_23 fg_PG_158 (w317 _) rfl ?_
  refine ST.lift (fun _ _ k => T_iload_n d_PG_isOnWire_26 rfl k) ?_
  refine ST.lift (fun _ _ k => T_iconst (v := nI 1) d_PG_isOnWire_27 (by decide) k) ?_
  refine S_isubN d_PG_isOnWire_28 (by omega) ?_
  refine S_topi (y := nI 1) (by decide) ?_
  refine S_aaload (C0 := "PasswordGate$Bytes") d_PG_isOnWire_29 (by decide) (w318 _) rfl (vp_in_nI (by omega) (by omega)) ?_
  refine ST.lift (fun _ _ k => T_iload_n d_PG_isOnWire_30 rfl k) ?_
  refine S_virtual (as := [.int z]) (rest := []) (b := 333) d_PG_isOnWire_31 rfl (jw_By_has.jo (by decide)) lm_PG_119 ji_By_has js_By_has (w333 _) rfl rfl rfl (Nat.le_of_ble_eq_true rfl) (by decide) (by decide) (c_By_has_neg G v 333 334 320 49 ⟨w333, a334, by decide, u333_1, by decide, by decide⟩ z hz_n hv) (fun r u1 hq => ?_)
  obtain ⟨hr, hv2, hm3⟩ := hq
  rw [hr]
  clear hr r
  have hm4 := hm.go hm3 (by intro i hi; simp only [List.mem_cons, List.not_mem_nil, or_false] at hi ⊢ <;> omega)
  show ST G mi_PG_isOnWire 34 [(0, .ref 61), (1, .int (nI 2)), (2, .int (nI 2)), (3, .int z)] [.int (nI 0)] u1 0 0 _
  refine S_if_eqN d_PG_isOnWire_34 rfl (by omega) (fun _ => ?_) (fun c => by first | exact absurd c (by omega) | exact c.elim | exact absurd c (by decide) | exact absurd (by assumption) c | exact absurd c (by assumption) | exact absurd c (Int32.not_le.mpr (by assumption)))
  refine ST.lift (fun _ _ k => T_iconst (v := nI 0) d_PG_isOnWire_41 (by decide) k) ?_
  refine S_topi (y := nI 0) (congrArg nI (by omega)) ?_
  exact S_ret d_PG_isOnWire_42 rfl (nar_z (by omega)) (by decide) (by decide) (hQ _ hv2 hm4)
set_option maxRecDepth 100000 in
set_option maxHeartbeats 4000000 in
theorem c_PG_tamper_2_2_neg (G : GX) (v : Nat → Int32) (z : Int32) (mask : Int32) (hz_n : z < 0) (hv : okv v) : CS G mi_PG_tamper [.ref 61, .int (nI 2), .int (nI 2), .int z, .int mask] v (fun r v' => r = some (.int (nI 0)) ∧ okv v' ∧ mdf [] v v') := by
  refine CS.of (by decide) (Nat.le_of_ble_eq_true rfl) ?_
  generalize hQe : (fun (r : Option Value) (v' : Nat → Int32) => r = some (.int (nI 0)) ∧ okv v' ∧ mdf [] v v') = Q
  have hQ : ∀ u, okv u → mdf [] v u → Q (some (.int (nI 0))) u := by rw [← hQe]; exact fun u h1 h2  => ⟨rfl, h1, h2⟩
  clear hQe
  have hm : mdf [] v v := mdf.rf
  show ST G mi_PG_tamper 0 [(0, .ref 61), (1, .int (nI 2)), (2, .int (nI 2)), (3, .int z), (4, .int mask)] [] v 0 0 Q
  refine ST.lift (fun _ _ k => T_aload_n (v := .ref 61) d_PG_tamper_0 rfl (Or.inr ⟨_, rfl⟩) k) ?_
  refine ST.lift (fun _ _ k => T_iload_n d_PG_tamper_1 rfl k) ?_
  refine ST.lift (fun _ _ k => T_iload_n d_PG_tamper_2 rfl k) ?_
  refine ST.lift (fun _ _ k => T_iload_n d_PG_tamper_3 rfl k) ?_
  refine S_virtual (as := [.int (nI 2), .int (nI 2), .int z]) (rest := []) (b := 61) d_PG_tamper_4 rfl (jw_PG_isOnWire.jo (by decide)) lm_PG_154 ji_PG_isOnWire js_PG_isOnWire (w61 _) rfl rfl rfl (Nat.le_of_ble_eq_true rfl) (by decide) (by decide) (c_PG_isOnWire_2_2_neg G v z hz_n hv) (fun r u1 hq => ?_)
  obtain ⟨hr, hv2, hm3⟩ := hq
  rw [hr]
  clear hr r
  have hm4 := hm.go hm3 (by intro i hi; simp only [List.mem_cons, List.not_mem_nil, or_false] at hi ⊢ <;> omega)
  show ST G mi_PG_tamper 7 [(0, .ref 61), (1, .int (nI 2)), (2, .int (nI 2)), (3, .int z), (4, .int mask)] [.int (nI 0)] u1 0 0 _
  refine S_if_neN d_PG_tamper_7 rfl (by omega) (fun c => by first | exact absurd c (by omega) | exact c.elim | exact absurd c (by decide) | exact absurd (by assumption) c | exact absurd c (by assumption) | exact absurd c (Int32.not_le.mpr (by assumption))) (fun _ => ?_)
  refine ST.lift (fun _ _ k => T_iconst (v := nI 0) d_PG_tamper_10 (by decide) k) ?_
  refine S_topi (y := nI 0) (congrArg nI (by omega)) ?_
  exact S_ret d_PG_tamper_11 rfl (nar_z (by omega)) (by decide) (by decide) (hQ _ hv2 hm4)
set_option maxRecDepth 100000 in
set_option maxHeartbeats 4000000 in
theorem c_PG_isOnWire_2_2_out (G : GX) (v : Nat → Int32) (i : Nat) (b_i : i < 2147483648) (k : Nat) (e49 : v 49 = nI k) (hk : k ≤ i ∧ k ≤ 320) (hv : okv v) : CS G mi_PG_isOnWire [.ref 61, .int (nI 2), .int (nI 2), .int (nI i)] v (fun r v' => r = some (.int (nI 0)) ∧ okv v' ∧ mdf [] v v' ∧ v' 49 = nI k) := by
  refine CS.of (by decide) (Nat.le_of_ble_eq_true rfl) ?_
  generalize hQe : (fun (r : Option Value) (v' : Nat → Int32) => r = some (.int (nI 0)) ∧ okv v' ∧ mdf [] v v' ∧ v' 49 = nI k) = Q
  have hQ : ∀ u, okv u → mdf [] v u → u 49 = nI k → Q (some (.int (nI 0))) u := by rw [← hQe]; exact fun u h1 h2 f0 => ⟨rfl, h1, h2, f0⟩
  clear hQe
  have hm : mdf [] v v := mdf.rf
  show ST G mi_PG_isOnWire 0 [(0, .ref 61), (1, .int (nI 2)), (2, .int (nI 2)), (3, .int (nI i))] [] v 0 0 Q
  refine ST.lift (fun _ _ k => T_iload_n d_PG_isOnWire_0 rfl k) ?_
  refine S_static (as := [.int (nI 2)]) (rest := []) d_PG_isOnWire_1 rfl (jw_PG_isSession.jo (by decide)) lm_PG_133 jt_PG_isSession rfl (Nat.le_of_ble_eq_true rfl) (by decide) (by decide) (c_PG_isSession G v 2 (by omega)) (fun r v' hq => ?_)
  rw [hq.1, hq.2]
  clear hq r v'
  show ST G mi_PG_isOnWire 4 [(0, .ref 61), (1, .int (nI 2)), (2, .int (nI 2)), (3, .int (nI i))] [.int (nI 1)] v 0 0 _
  refine S_if_eqN d_PG_isOnWire_4 rfl (by omega) (fun c => by first | exact absurd c (by omega) | exact c.elim | exact absurd c (by decide) | exact absurd (by assumption) c | exact absurd c (by assumption) | exact absurd c (Int32.not_le.mpr (by assumption))) (fun _ => ?_)
  refine ST.lift (fun _ _ k => T_iload_n d_PG_isOnWire_7 rfl k) ?_
  refine ST.lift (fun _ _ k => T_iconst (v := nI 1) d_PG_isOnWire_8 (by decide) k) ?_
  refine S_icmp_ltN d_PG_isOnWire_9 rfl (by omega) (by omega) (fun c => by first | exact absurd c (by omega) | exact c.elim | exact absurd c (by decide) | exact absurd (by assumption) c | exact absurd c (by assumption) | exact absurd c (Int32.not_le.mpr (by assumption))) (fun _ => ?_)
  refine ST.lift (fun _ _ k => T_iload_n d_PG_isOnWire_12 rfl k) ?_
  refine ST.lift (fun _ _ k => T_iconst (v := nI 3) d_PG_isOnWire_13 (by decide) k) ?_
  refine S_icmp_gtN d_PG_isOnWire_14 rfl (by omega) (by omega) (fun c => by first | exact absurd c (by omega) | exact c.elim | exact absurd c (by decide) | exact absurd (by assumption) c | exact absurd c (by assumption) | exact absurd c (Int32.not_le.mpr (by assumption))) (fun _ => ?_)
  refine ST.lift (fun _ _ k => T_aload_n (v := .ref 61) d_PG_isOnWire_17 rfl (Or.inr ⟨_, rfl⟩) k) ?_
  refine S_getfield d_PG_isOnWire_18 fg_PG_34 (w61 _) rfl ?_
  refine ST.lift (fun _ _ k => T_iload_n d_PG_isOnWire_21 rfl k) ?_
  refine S_aaload (C0 := "PasswordGate$Session") d_PG_isOnWire_22 (by decide) (w264 _) rfl (vp_in_nI (by omega) (by omega)) ?_
  refine S_getfield d_PG_isOnWire_23 fg_PG_158 (w317 _) rfl ?_
  refine ST.lift (fun _ _ k => T_iload_n d_PG_isOnWire_26 rfl k) ?_
  refine ST.lift (fun _ _ k => T_iconst (v := nI 1) d_PG_isOnWire_27 (by decide) k) ?_
  refine S_isubN d_PG_isOnWire_28 (by omega) ?_
  refine S_topi (y := nI 1) (by decide) ?_
  refine S_aaload (C0 := "PasswordGate$Bytes") d_PG_isOnWire_29 (by decide) (w318 _) rfl (vp_in_nI (by omega) (by omega)) ?_
  refine ST.lift (fun _ _ k => T_iload_n d_PG_isOnWire_30 rfl k) ?_
  refine S_virtual (as := [.int (nI i)]) (rest := []) (b := 333) d_PG_isOnWire_31 rfl (jw_By_has.jo (by decide)) lm_PG_119 ji_By_has js_By_has (w333 _) rfl rfl rfl (Nat.le_of_ble_eq_true rfl) (by decide) (by decide) (c_By_has_out G v 333 334 320 49 ⟨w333, a334, by decide, u333_1, by decide, by decide⟩ i (by omega) k e49 (by omega) hv) (fun r u1 hq => ?_)
  obtain ⟨hr, hv2, hm3, fe0_u1⟩ := hq
  rw [hr]
  clear hr r
  have hm4 := hm.go hm3 (by intro i hi; simp only [List.mem_cons, List.not_mem_nil, or_false] at hi ⊢ <;> omega)
  have e5 : u1 49 = nI k := (hm3 49 (by decide)).trans e49
  show ST G mi_PG_isOnWire 34 [(0, .ref 61), (1, .int (nI 2)), (2, .int (nI 2)), (3, .int (nI i))] [.int (nI 0)] u1 0 0 _
  refine S_if_eqN d_PG_isOnWire_34 rfl (by omega) (fun _ => ?_) (fun c => by first | exact absurd c (by omega) | exact c.elim | exact absurd c (by decide) | exact absurd (by assumption) c | exact absurd c (by assumption) | exact absurd c (Int32.not_le.mpr (by assumption)))
  refine ST.lift (fun _ _ k => T_iconst (v := nI 0) d_PG_isOnWire_41 (by decide) k) ?_
  refine S_topi (y := nI 0) (congrArg nI (by omega)) ?_
  exact S_ret d_PG_isOnWire_42 rfl (nar_z (by omega)) (by decide) (by decide) (hQ _ hv2 hm4 (fe0_u1.trans (congrArg nI (by omega))))
set_option maxRecDepth 100000 in
set_option maxHeartbeats 4000000 in
theorem c_PG_tamper_2_2_out (G : GX) (v : Nat → Int32) (i : Nat) (b_i : i < 2147483648) (mask : Int32) (k : Nat) (e49 : v 49 = nI k) (hk : k ≤ i ∧ k ≤ 320) (hv : okv v) : CS G mi_PG_tamper [.ref 61, .int (nI 2), .int (nI 2), .int (nI i), .int mask] v (fun r v' => r = some (.int (nI 0)) ∧ okv v' ∧ mdf [] v v' ∧ v' 49 = nI k) := by
  refine CS.of (by decide) (Nat.le_of_ble_eq_true rfl) ?_
  generalize hQe : (fun (r : Option Value) (v' : Nat → Int32) => r = some (.int (nI 0)) ∧ okv v' ∧ mdf [] v v' ∧ v' 49 = nI k) = Q
  have hQ : ∀ u, okv u → mdf [] v u → u 49 = nI k → Q (some (.int (nI 0))) u := by rw [← hQe]; exact fun u h1 h2 f0 => ⟨rfl, h1, h2, f0⟩
  clear hQe
  have hm : mdf [] v v := mdf.rf
  show ST G mi_PG_tamper 0 [(0, .ref 61), (1, .int (nI 2)), (2, .int (nI 2)), (3, .int (nI i)), (4, .int mask)] [] v 0 0 Q
  refine ST.lift (fun _ _ k => T_aload_n (v := .ref 61) d_PG_tamper_0 rfl (Or.inr ⟨_, rfl⟩) k) ?_
  refine ST.lift (fun _ _ k => T_iload_n d_PG_tamper_1 rfl k) ?_
  refine ST.lift (fun _ _ k => T_iload_n d_PG_tamper_2 rfl k) ?_
  refine ST.lift (fun _ _ k => T_iload_n d_PG_tamper_3 rfl k) ?_
  refine S_virtual (as := [.int (nI 2), .int (nI 2), .int (nI i)]) (rest := []) (b := 61) d_PG_tamper_4 rfl (jw_PG_isOnWire.jo (by decide)) lm_PG_154 ji_PG_isOnWire js_PG_isOnWire (w61 _) rfl rfl rfl (Nat.le_of_ble_eq_true rfl) (by decide) (by decide) (c_PG_isOnWire_2_2_out G v i (by omega) k e49 (by omega) hv) (fun r u1 hq => ?_)
  obtain ⟨hr, hv2, hm3, fe0_u1⟩ := hq
  rw [hr]
  clear hr r
  have hm4 := hm.go hm3 (by intro i hi; simp only [List.mem_cons, List.not_mem_nil, or_false] at hi ⊢ <;> omega)
  have e5 : u1 49 = nI k := (hm3 49 (by decide)).trans e49
  show ST G mi_PG_tamper 7 [(0, .ref 61), (1, .int (nI 2)), (2, .int (nI 2)), (3, .int (nI i)), (4, .int mask)] [.int (nI 0)] u1 0 0 _
  refine S_if_neN d_PG_tamper_7 rfl (by omega) (fun c => by first | exact absurd c (by omega) | exact c.elim | exact absurd c (by decide) | exact absurd (by assumption) c | exact absurd c (by assumption) | exact absurd c (Int32.not_le.mpr (by assumption))) (fun _ => ?_)
  refine ST.lift (fun _ _ k => T_iconst (v := nI 0) d_PG_tamper_10 (by decide) k) ?_
  refine S_topi (y := nI 0) (congrArg nI (by omega)) ?_
  exact S_ret d_PG_tamper_11 rfl (nar_z (by omega)) (by decide) (by decide) (hQ _ hv2 hm4 (fe0_u1.trans (congrArg nI (by omega))))
set_option maxRecDepth 100000 in
set_option maxHeartbeats 4000000 in
theorem c_PG_isOnWire_2_2_in (G : GX) (v : Nat → Int32) (i : Nat) (b_i : i < 2147483648) (k : Nat) (e49 : v 49 = nI k) (hk : i < k ∧ k ≤ 320) (hv : okv v) : CS G mi_PG_isOnWire [.ref 61, .int (nI 2), .int (nI 2), .int (nI i)] v (fun r v' => r = some (.int (nI 1)) ∧ okv v' ∧ mdf [] v v' ∧ v' 49 = nI k) := by
  refine CS.of (by decide) (Nat.le_of_ble_eq_true rfl) ?_
  generalize hQe : (fun (r : Option Value) (v' : Nat → Int32) => r = some (.int (nI 1)) ∧ okv v' ∧ mdf [] v v' ∧ v' 49 = nI k) = Q
  have hQ : ∀ u, okv u → mdf [] v u → u 49 = nI k → Q (some (.int (nI 1))) u := by rw [← hQe]; exact fun u h1 h2 f0 => ⟨rfl, h1, h2, f0⟩
  clear hQe
  have hm : mdf [] v v := mdf.rf
  show ST G mi_PG_isOnWire 0 [(0, .ref 61), (1, .int (nI 2)), (2, .int (nI 2)), (3, .int (nI i))] [] v 0 0 Q
  refine ST.lift (fun _ _ k => T_iload_n d_PG_isOnWire_0 rfl k) ?_
  refine S_static (as := [.int (nI 2)]) (rest := []) d_PG_isOnWire_1 rfl (jw_PG_isSession.jo (by decide)) lm_PG_133 jt_PG_isSession rfl (Nat.le_of_ble_eq_true rfl) (by decide) (by decide) (c_PG_isSession G v 2 (by omega)) (fun r v' hq => ?_)
  rw [hq.1, hq.2]
  clear hq r v'
  show ST G mi_PG_isOnWire 4 [(0, .ref 61), (1, .int (nI 2)), (2, .int (nI 2)), (3, .int (nI i))] [.int (nI 1)] v 0 0 _
  refine S_if_eqN d_PG_isOnWire_4 rfl (by omega) (fun c => by first | exact absurd c (by omega) | exact c.elim | exact absurd c (by decide) | exact absurd (by assumption) c | exact absurd c (by assumption) | exact absurd c (Int32.not_le.mpr (by assumption))) (fun _ => ?_)
  refine ST.lift (fun _ _ k => T_iload_n d_PG_isOnWire_7 rfl k) ?_
  refine ST.lift (fun _ _ k => T_iconst (v := nI 1) d_PG_isOnWire_8 (by decide) k) ?_
  refine S_icmp_ltN d_PG_isOnWire_9 rfl (by omega) (by omega) (fun c => by first | exact absurd c (by omega) | exact c.elim | exact absurd c (by decide) | exact absurd (by assumption) c | exact absurd c (by assumption) | exact absurd c (Int32.not_le.mpr (by assumption))) (fun _ => ?_)
  refine ST.lift (fun _ _ k => T_iload_n d_PG_isOnWire_12 rfl k) ?_
  refine ST.lift (fun _ _ k => T_iconst (v := nI 3) d_PG_isOnWire_13 (by decide) k) ?_
  refine S_icmp_gtN d_PG_isOnWire_14 rfl (by omega) (by omega) (fun c => by first | exact absurd c (by omega) | exact c.elim | exact absurd c (by decide) | exact absurd (by assumption) c | exact absurd c (by assumption) | exact absurd c (Int32.not_le.mpr (by assumption))) (fun _ => ?_)
  refine ST.lift (fun _ _ k => T_aload_n (v := .ref 61) d_PG_isOnWire_17 rfl (Or.inr ⟨_, rfl⟩) k) ?_
  refine S_getfield d_PG_isOnWire_18 fg_PG_34 (w61 _) rfl ?_
  refine ST.lift (fun _ _ k => T_iload_n d_PG_isOnWire_21 rfl k) ?_
  refine S_aaload (C0 := "PasswordGate$Session") d_PG_isOnWire_22 (by decide) (w264 _) rfl (vp_in_nI (by omega) (by omega)) ?_
  refine S_getfield d_PG_isOnWire_23 fg_PG_158 (w317 _) rfl ?_
  refine ST.lift (fun _ _ k => T_iload_n d_PG_isOnWire_26 rfl k) ?_
  refine ST.lift (fun _ _ k => T_iconst (v := nI 1) d_PG_isOnWire_27 (by decide) k) ?_
  refine S_isubN d_PG_isOnWire_28 (by omega) ?_
  refine S_topi (y := nI 1) (by decide) ?_
  refine S_aaload (C0 := "PasswordGate$Bytes") d_PG_isOnWire_29 (by decide) (w318 _) rfl (vp_in_nI (by omega) (by omega)) ?_
  refine ST.lift (fun _ _ k => T_iload_n d_PG_isOnWire_30 rfl k) ?_
  refine S_virtual (as := [.int (nI i)]) (rest := []) (b := 333) d_PG_isOnWire_31 rfl (jw_By_has.jo (by decide)) lm_PG_119 ji_By_has js_By_has (w333 _) rfl rfl rfl (Nat.le_of_ble_eq_true rfl) (by decide) (by decide) (c_By_has_in G v 333 334 320 49 ⟨w333, a334, by decide, u333_1, by decide, by decide⟩ i (by omega) k e49 (by omega) hv) (fun r u1 hq => ?_)
  obtain ⟨hr, hv2, hm3, fe0_u1⟩ := hq
  rw [hr]
  clear hr r
  have hm4 := hm.go hm3 (by intro i hi; simp only [List.mem_cons, List.not_mem_nil, or_false] at hi ⊢ <;> omega)
  have e5 : u1 49 = nI k := (hm3 49 (by decide)).trans e49
  show ST G mi_PG_isOnWire 34 [(0, .ref 61), (1, .int (nI 2)), (2, .int (nI 2)), (3, .int (nI i))] [.int (nI 1)] u1 0 0 _
  refine S_if_eqN d_PG_isOnWire_34 rfl (by omega) (fun c => by first | exact absurd c (by omega) | exact c.elim | exact absurd c (by decide) | exact absurd (by assumption) c | exact absurd c (by assumption) | exact absurd c (Int32.not_le.mpr (by assumption))) (fun _ => ?_)
  refine ST.lift (fun _ _ k => T_iconst (v := nI 1) d_PG_isOnWire_37 (by decide) k) ?_
  refine ST.lift (fun _ _ k => T_goto (tgt := 42) d_PG_isOnWire_38 rfl k) ?_
  refine S_topi (y := nI 1) (congrArg nI (by omega)) ?_
  exact S_ret d_PG_isOnWire_42 rfl (nar_z (by omega)) (by decide) (by decide) (hQ _ hv2 hm4 (fe0_u1.trans (congrArg nI (by omega))))
set_option maxRecDepth 100000 in
set_option maxHeartbeats 4000000 in
theorem c_PG_wire_2_2_in (G : GX) (v : Nat → Int32) (i : Nat) (b_i : i < 2147483648) (k : Nat) (e49 : v 49 = nI k) (hk : i < k ∧ k ≤ 320) (hv : okv v) : CS G mi_PG_wire [.ref 61, .int (nI 2), .int (nI 2), .int (nI i)] v (fun r v' => ∃ z : Int32, r = some (.int z) ∧ okv v' ∧ mdf [] v v' ∧ v' 49 = nI k) := by
  refine CS.of (by decide) (Nat.le_of_ble_eq_true rfl) ?_
  generalize hQe : (fun (r : Option Value) (v' : Nat → Int32) => ∃ z : Int32, r = some (.int z) ∧ okv v' ∧ mdf [] v v' ∧ v' 49 = nI k) = Q
  have hQ : ∀ (z : Int32) (u : Nat → Int32), okv u → mdf [] v u → u 49 = nI k → Q (some (.int z)) u := by rw [← hQe]; exact fun z u h1 h2 f0 => ⟨z, rfl, h1, h2, f0⟩
  clear hQe
  have hm : mdf [] v v := mdf.rf
  show ST G mi_PG_wire 0 [(0, .ref 61), (1, .int (nI 2)), (2, .int (nI 2)), (3, .int (nI i))] [] v 0 0 Q
  refine ST.lift (fun _ _ k => T_aload_n (v := .ref 61) d_PG_wire_0 rfl (Or.inr ⟨_, rfl⟩) k) ?_
  refine ST.lift (fun _ _ k => T_iload_n d_PG_wire_1 rfl k) ?_
  refine ST.lift (fun _ _ k => T_iload_n d_PG_wire_2 rfl k) ?_
  refine ST.lift (fun _ _ k => T_iload_n d_PG_wire_3 rfl k) ?_
  refine S_virtual (as := [.int (nI 2), .int (nI 2), .int (nI i)]) (rest := []) (b := 61) d_PG_wire_4 rfl (jw_PG_isOnWire.jo (by decide)) lm_PG_154 ji_PG_isOnWire js_PG_isOnWire (w61 _) rfl rfl rfl (Nat.le_of_ble_eq_true rfl) (by decide) (by decide) (c_PG_isOnWire_2_2_in G v i (by omega) k e49 (by omega) hv) (fun r u1 hq => ?_)
  obtain ⟨hr, hv2, hm3, fe0_u1⟩ := hq
  rw [hr]
  clear hr r
  have hm4 := hm.go hm3 (by intro i hi; simp only [List.mem_cons, List.not_mem_nil, or_false] at hi ⊢ <;> omega)
  have e5 : u1 49 = nI k := (hm3 49 (by decide)).trans e49
  show ST G mi_PG_wire 7 [(0, .ref 61), (1, .int (nI 2)), (2, .int (nI 2)), (3, .int (nI i))] [.int (nI 1)] u1 0 0 _
  refine S_if_neN d_PG_wire_7 rfl (by omega) (fun _ => ?_) (fun c => by first | exact absurd c (by omega) | exact c.elim | exact absurd c (by decide) | exact absurd (by assumption) c | exact absurd c (by assumption) | exact absurd c (Int32.not_le.mpr (by assumption)))
  refine ST.lift (fun _ _ k => T_aload_n (v := .ref 61) d_PG_wire_18 rfl (Or.inr ⟨_, rfl⟩) k) ?_
  refine S_getfield d_PG_wire_19 fg_PG_34 (w61 _) rfl ?_
  refine ST.lift (fun _ _ k => T_iload_n d_PG_wire_22 rfl k) ?_
  refine S_aaload (C0 := "PasswordGate$Session") d_PG_wire_23 (by decide) (w264 _) rfl (vp_in_nI (by omega) (by omega)) ?_
  refine S_getfield d_PG_wire_24 fg_PG_158 (w317 _) rfl ?_
  refine ST.lift (fun _ _ k => T_iload_n d_PG_wire_27 rfl k) ?_
  refine ST.lift (fun _ _ k => T_iconst (v := nI 1) d_PG_wire_28 (by decide) k) ?_
  refine S_isubN d_PG_wire_29 (by omega) ?_
  refine S_topi (y := nI 1) (by decide) ?_
  refine S_aaload (C0 := "PasswordGate$Bytes") d_PG_wire_30 (by decide) (w318 _) rfl (vp_in_nI (by omega) (by omega)) ?_
  refine S_getfield d_PG_wire_31 fg_PG_93 (w333 _) rfl ?_
  refine ST.lift (fun _ _ k => T_iload_n d_PG_wire_34 rfl k) ?_
  refine S_baload d_PG_wire_35 a334 (vp_in_nI (by omega) (by omega)) (fun z6 hz6 => ?_)
  refine ST.lift (fun _ _ k => T_sipush (v := nI 255) d_PG_wire_36 (by decide) k) ?_
  refine S_iandM 8 d_PG_wire_39 (by decide) (by decide) (fun j7 hj7 => ?_)
  simp only [Nat.reducePow] at hj7
  exact S_ret d_PG_wire_40 rfl rfl (by decide) (by decide) (hQ _ _ hv2 hm4 (fe0_u1.trans (congrArg nI (by omega))))
set_option maxRecDepth 100000 in
set_option maxHeartbeats 4000000 in
theorem c_PG_isOnWire_2_3_neg (G : GX) (v : Nat → Int32) (z : Int32) (hz_n : z < 0) (hv : okv v) : CS G mi_PG_isOnWire [.ref 61, .int (nI 2), .int (nI 3), .int z] v (fun r v' => r = some (.int (nI 0)) ∧ okv v' ∧ mdf [] v v') := by
  refine CS.of (by decide) (Nat.le_of_ble_eq_true rfl) ?_
  generalize hQe : (fun (r : Option Value) (v' : Nat → Int32) => r = some (.int (nI 0)) ∧ okv v' ∧ mdf [] v v') = Q
  have hQ : ∀ u, okv u → mdf [] v u → Q (some (.int (nI 0))) u := by rw [← hQe]; exact fun u h1 h2  => ⟨rfl, h1, h2⟩
  clear hQe
  have hm : mdf [] v v := mdf.rf
  show ST G mi_PG_isOnWire 0 [(0, .ref 61), (1, .int (nI 2)), (2, .int (nI 3)), (3, .int z)] [] v 0 0 Q
  refine ST.lift (fun _ _ k => T_iload_n d_PG_isOnWire_0 rfl k) ?_
  refine S_static (as := [.int (nI 2)]) (rest := []) d_PG_isOnWire_1 rfl (jw_PG_isSession.jo (by decide)) lm_PG_133 jt_PG_isSession rfl (Nat.le_of_ble_eq_true rfl) (by decide) (by decide) (c_PG_isSession G v 2 (by omega)) (fun r v' hq => ?_)
  rw [hq.1, hq.2]
  clear hq r v'
  show ST G mi_PG_isOnWire 4 [(0, .ref 61), (1, .int (nI 2)), (2, .int (nI 3)), (3, .int z)] [.int (nI 1)] v 0 0 _
  refine S_if_eqN d_PG_isOnWire_4 rfl (by omega) (fun c => by first | exact absurd c (by omega) | exact c.elim | exact absurd c (by decide) | exact absurd (by assumption) c | exact absurd c (by assumption) | exact absurd c (Int32.not_le.mpr (by assumption))) (fun _ => ?_)
  refine ST.lift (fun _ _ k => T_iload_n d_PG_isOnWire_7 rfl k) ?_
  refine ST.lift (fun _ _ k => T_iconst (v := nI 1) d_PG_isOnWire_8 (by decide) k) ?_
  refine S_icmp_ltN d_PG_isOnWire_9 rfl (by omega) (by omega) (fun c => by first | exact absurd c (by omega) | exact c.elim | exact absurd c (by decide) | exact absurd (by assumption) c | exact absurd c (by assumption) | exact absurd c (Int32.not_le.mpr (by assumption))) (fun _ => ?_)
  refine ST.lift (fun _ _ k => T_iload_n d_PG_isOnWire_12 rfl k) ?_
  refine ST.lift (fun _ _ k => T_iconst (v := nI 3) d_PG_isOnWire_13 (by decide) k) ?_
  refine S_icmp_gtN d_PG_isOnWire_14 rfl (by omega) (by omega) (fun c => by first | exact absurd c (by omega) | exact c.elim | exact absurd c (by decide) | exact absurd (by assumption) c | exact absurd c (by assumption) | exact absurd c (Int32.not_le.mpr (by assumption))) (fun _ => ?_)
  refine ST.lift (fun _ _ k => T_aload_n (v := .ref 61) d_PG_isOnWire_17 rfl (Or.inr ⟨_, rfl⟩) k) ?_
  refine S_getfield d_PG_isOnWire_18 fg_PG_34 (w61 _) rfl ?_
  refine ST.lift (fun _ _ k => T_iload_n d_PG_isOnWire_21 rfl k) ?_
  refine S_aaload (C0 := "PasswordGate$Session") d_PG_isOnWire_22 (by decide) (w264 _) rfl (vp_in_nI (by omega) (by omega)) ?_
  refine S_getfield d_PG_isOnWire_23 fg_PG_158 (w317 _) rfl ?_
  refine ST.lift (fun _ _ k => T_iload_n d_PG_isOnWire_26 rfl k) ?_
  refine ST.lift (fun _ _ k => T_iconst (v := nI 1) d_PG_isOnWire_27 (by decide) k) ?_
  refine S_isubN d_PG_isOnWire_28 (by omega) ?_
  refine S_topi (y := nI 2) (by decide) ?_
  refine S_aaload (C0 := "PasswordGate$Bytes") d_PG_isOnWire_29 (by decide) (w318 _) rfl (vp_in_nI (by omega) (by omega)) ?_
  refine ST.lift (fun _ _ k => T_iload_n d_PG_isOnWire_30 rfl k) ?_
  refine S_virtual (as := [.int z]) (rest := []) (b := 335) d_PG_isOnWire_31 rfl (jw_By_has.jo (by decide)) lm_PG_119 ji_By_has js_By_has (w335 _) rfl rfl rfl (Nat.le_of_ble_eq_true rfl) (by decide) (by decide) (c_By_has_neg G v 335 336 64 50 ⟨w335, a336, by decide, u335_1, by decide, by decide⟩ z hz_n hv) (fun r u1 hq => ?_)
  obtain ⟨hr, hv2, hm3⟩ := hq
  rw [hr]
  clear hr r
  have hm4 := hm.go hm3 (by intro i hi; simp only [List.mem_cons, List.not_mem_nil, or_false] at hi ⊢ <;> omega)
  show ST G mi_PG_isOnWire 34 [(0, .ref 61), (1, .int (nI 2)), (2, .int (nI 3)), (3, .int z)] [.int (nI 0)] u1 0 0 _
  refine S_if_eqN d_PG_isOnWire_34 rfl (by omega) (fun _ => ?_) (fun c => by first | exact absurd c (by omega) | exact c.elim | exact absurd c (by decide) | exact absurd (by assumption) c | exact absurd c (by assumption) | exact absurd c (Int32.not_le.mpr (by assumption)))
  refine ST.lift (fun _ _ k => T_iconst (v := nI 0) d_PG_isOnWire_41 (by decide) k) ?_
  refine S_topi (y := nI 0) (congrArg nI (by omega)) ?_
  exact S_ret d_PG_isOnWire_42 rfl (nar_z (by omega)) (by decide) (by decide) (hQ _ hv2 hm4)
set_option maxRecDepth 100000 in
set_option maxHeartbeats 4000000 in
theorem c_PG_tamper_2_3_neg (G : GX) (v : Nat → Int32) (z : Int32) (mask : Int32) (hz_n : z < 0) (hv : okv v) : CS G mi_PG_tamper [.ref 61, .int (nI 2), .int (nI 3), .int z, .int mask] v (fun r v' => r = some (.int (nI 0)) ∧ okv v' ∧ mdf [] v v') := by
  refine CS.of (by decide) (Nat.le_of_ble_eq_true rfl) ?_
  generalize hQe : (fun (r : Option Value) (v' : Nat → Int32) => r = some (.int (nI 0)) ∧ okv v' ∧ mdf [] v v') = Q
  have hQ : ∀ u, okv u → mdf [] v u → Q (some (.int (nI 0))) u := by rw [← hQe]; exact fun u h1 h2  => ⟨rfl, h1, h2⟩
  clear hQe
  have hm : mdf [] v v := mdf.rf
  show ST G mi_PG_tamper 0 [(0, .ref 61), (1, .int (nI 2)), (2, .int (nI 3)), (3, .int z), (4, .int mask)] [] v 0 0 Q
  refine ST.lift (fun _ _ k => T_aload_n (v := .ref 61) d_PG_tamper_0 rfl (Or.inr ⟨_, rfl⟩) k) ?_
  refine ST.lift (fun _ _ k => T_iload_n d_PG_tamper_1 rfl k) ?_
  refine ST.lift (fun _ _ k => T_iload_n d_PG_tamper_2 rfl k) ?_
  refine ST.lift (fun _ _ k => T_iload_n d_PG_tamper_3 rfl k) ?_
  refine S_virtual (as := [.int (nI 2), .int (nI 3), .int z]) (rest := []) (b := 61) d_PG_tamper_4 rfl (jw_PG_isOnWire.jo (by decide)) lm_PG_154 ji_PG_isOnWire js_PG_isOnWire (w61 _) rfl rfl rfl (Nat.le_of_ble_eq_true rfl) (by decide) (by decide) (c_PG_isOnWire_2_3_neg G v z hz_n hv) (fun r u1 hq => ?_)
  obtain ⟨hr, hv2, hm3⟩ := hq
  rw [hr]
  clear hr r
  have hm4 := hm.go hm3 (by intro i hi; simp only [List.mem_cons, List.not_mem_nil, or_false] at hi ⊢ <;> omega)
  show ST G mi_PG_tamper 7 [(0, .ref 61), (1, .int (nI 2)), (2, .int (nI 3)), (3, .int z), (4, .int mask)] [.int (nI 0)] u1 0 0 _
  refine S_if_neN d_PG_tamper_7 rfl (by omega) (fun c => by first | exact absurd c (by omega) | exact c.elim | exact absurd c (by decide) | exact absurd (by assumption) c | exact absurd c (by assumption) | exact absurd c (Int32.not_le.mpr (by assumption))) (fun _ => ?_)
  refine ST.lift (fun _ _ k => T_iconst (v := nI 0) d_PG_tamper_10 (by decide) k) ?_
  refine S_topi (y := nI 0) (congrArg nI (by omega)) ?_
  exact S_ret d_PG_tamper_11 rfl (nar_z (by omega)) (by decide) (by decide) (hQ _ hv2 hm4)
set_option maxRecDepth 100000 in
set_option maxHeartbeats 4000000 in
theorem c_PG_isOnWire_2_3_out (G : GX) (v : Nat → Int32) (i : Nat) (b_i : i < 2147483648) (k : Nat) (e50 : v 50 = nI k) (hk : k ≤ i ∧ k ≤ 64) (hv : okv v) : CS G mi_PG_isOnWire [.ref 61, .int (nI 2), .int (nI 3), .int (nI i)] v (fun r v' => r = some (.int (nI 0)) ∧ okv v' ∧ mdf [] v v' ∧ v' 50 = nI k) := by
  refine CS.of (by decide) (Nat.le_of_ble_eq_true rfl) ?_
  generalize hQe : (fun (r : Option Value) (v' : Nat → Int32) => r = some (.int (nI 0)) ∧ okv v' ∧ mdf [] v v' ∧ v' 50 = nI k) = Q
  have hQ : ∀ u, okv u → mdf [] v u → u 50 = nI k → Q (some (.int (nI 0))) u := by rw [← hQe]; exact fun u h1 h2 f0 => ⟨rfl, h1, h2, f0⟩
  clear hQe
  have hm : mdf [] v v := mdf.rf
  show ST G mi_PG_isOnWire 0 [(0, .ref 61), (1, .int (nI 2)), (2, .int (nI 3)), (3, .int (nI i))] [] v 0 0 Q
  refine ST.lift (fun _ _ k => T_iload_n d_PG_isOnWire_0 rfl k) ?_
  refine S_static (as := [.int (nI 2)]) (rest := []) d_PG_isOnWire_1 rfl (jw_PG_isSession.jo (by decide)) lm_PG_133 jt_PG_isSession rfl (Nat.le_of_ble_eq_true rfl) (by decide) (by decide) (c_PG_isSession G v 2 (by omega)) (fun r v' hq => ?_)
  rw [hq.1, hq.2]
  clear hq r v'
  show ST G mi_PG_isOnWire 4 [(0, .ref 61), (1, .int (nI 2)), (2, .int (nI 3)), (3, .int (nI i))] [.int (nI 1)] v 0 0 _
  refine S_if_eqN d_PG_isOnWire_4 rfl (by omega) (fun c => by first | exact absurd c (by omega) | exact c.elim | exact absurd c (by decide) | exact absurd (by assumption) c | exact absurd c (by assumption) | exact absurd c (Int32.not_le.mpr (by assumption))) (fun _ => ?_)
  refine ST.lift (fun _ _ k => T_iload_n d_PG_isOnWire_7 rfl k) ?_
  refine ST.lift (fun _ _ k => T_iconst (v := nI 1) d_PG_isOnWire_8 (by decide) k) ?_
  refine S_icmp_ltN d_PG_isOnWire_9 rfl (by omega) (by omega) (fun c => by first | exact absurd c (by omega) | exact c.elim | exact absurd c (by decide) | exact absurd (by assumption) c | exact absurd c (by assumption) | exact absurd c (Int32.not_le.mpr (by assumption))) (fun _ => ?_)
  refine ST.lift (fun _ _ k => T_iload_n d_PG_isOnWire_12 rfl k) ?_
  refine ST.lift (fun _ _ k => T_iconst (v := nI 3) d_PG_isOnWire_13 (by decide) k) ?_
  refine S_icmp_gtN d_PG_isOnWire_14 rfl (by omega) (by omega) (fun c => by first | exact absurd c (by omega) | exact c.elim | exact absurd c (by decide) | exact absurd (by assumption) c | exact absurd c (by assumption) | exact absurd c (Int32.not_le.mpr (by assumption))) (fun _ => ?_)
  refine ST.lift (fun _ _ k => T_aload_n (v := .ref 61) d_PG_isOnWire_17 rfl (Or.inr ⟨_, rfl⟩) k) ?_
  refine S_getfield d_PG_isOnWire_18 fg_PG_34 (w61 _) rfl ?_
  refine ST.lift (fun _ _ k => T_iload_n d_PG_isOnWire_21 rfl k) ?_
  refine S_aaload (C0 := "PasswordGate$Session") d_PG_isOnWire_22 (by decide) (w264 _) rfl (vp_in_nI (by omega) (by omega)) ?_
  refine S_getfield d_PG_isOnWire_23 fg_PG_158 (w317 _) rfl ?_
  refine ST.lift (fun _ _ k => T_iload_n d_PG_isOnWire_26 rfl k) ?_
  refine ST.lift (fun _ _ k => T_iconst (v := nI 1) d_PG_isOnWire_27 (by decide) k) ?_
  refine S_isubN d_PG_isOnWire_28 (by omega) ?_
  refine S_topi (y := nI 2) (by decide) ?_
  refine S_aaload (C0 := "PasswordGate$Bytes") d_PG_isOnWire_29 (by decide) (w318 _) rfl (vp_in_nI (by omega) (by omega)) ?_
  refine ST.lift (fun _ _ k => T_iload_n d_PG_isOnWire_30 rfl k) ?_
  refine S_virtual (as := [.int (nI i)]) (rest := []) (b := 335) d_PG_isOnWire_31 rfl (jw_By_has.jo (by decide)) lm_PG_119 ji_By_has js_By_has (w335 _) rfl rfl rfl (Nat.le_of_ble_eq_true rfl) (by decide) (by decide) (c_By_has_out G v 335 336 64 50 ⟨w335, a336, by decide, u335_1, by decide, by decide⟩ i (by omega) k e50 (by omega) hv) (fun r u1 hq => ?_)
  obtain ⟨hr, hv2, hm3, fe0_u1⟩ := hq
  rw [hr]
  clear hr r
  have hm4 := hm.go hm3 (by intro i hi; simp only [List.mem_cons, List.not_mem_nil, or_false] at hi ⊢ <;> omega)
  have e5 : u1 50 = nI k := (hm3 50 (by decide)).trans e50
  show ST G mi_PG_isOnWire 34 [(0, .ref 61), (1, .int (nI 2)), (2, .int (nI 3)), (3, .int (nI i))] [.int (nI 0)] u1 0 0 _
  refine S_if_eqN d_PG_isOnWire_34 rfl (by omega) (fun _ => ?_) (fun c => by first | exact absurd c (by omega) | exact c.elim | exact absurd c (by decide) | exact absurd (by assumption) c | exact absurd c (by assumption) | exact absurd c (Int32.not_le.mpr (by assumption)))
  refine ST.lift (fun _ _ k => T_iconst (v := nI 0) d_PG_isOnWire_41 (by decide) k) ?_
  refine S_topi (y := nI 0) (congrArg nI (by omega)) ?_
  exact S_ret d_PG_isOnWire_42 rfl (nar_z (by omega)) (by decide) (by decide) (hQ _ hv2 hm4 (fe0_u1.trans (congrArg nI (by omega))))
set_option maxRecDepth 100000 in
set_option maxHeartbeats 4000000 in
theorem c_PG_tamper_2_3_out (G : GX) (v : Nat → Int32) (i : Nat) (b_i : i < 2147483648) (mask : Int32) (k : Nat) (e50 : v 50 = nI k) (hk : k ≤ i ∧ k ≤ 64) (hv : okv v) : CS G mi_PG_tamper [.ref 61, .int (nI 2), .int (nI 3), .int (nI i), .int mask] v (fun r v' => r = some (.int (nI 0)) ∧ okv v' ∧ mdf [] v v' ∧ v' 50 = nI k) := by
  refine CS.of (by decide) (Nat.le_of_ble_eq_true rfl) ?_
  generalize hQe : (fun (r : Option Value) (v' : Nat → Int32) => r = some (.int (nI 0)) ∧ okv v' ∧ mdf [] v v' ∧ v' 50 = nI k) = Q
  have hQ : ∀ u, okv u → mdf [] v u → u 50 = nI k → Q (some (.int (nI 0))) u := by rw [← hQe]; exact fun u h1 h2 f0 => ⟨rfl, h1, h2, f0⟩
  clear hQe
  have hm : mdf [] v v := mdf.rf
  show ST G mi_PG_tamper 0 [(0, .ref 61), (1, .int (nI 2)), (2, .int (nI 3)), (3, .int (nI i)), (4, .int mask)] [] v 0 0 Q
  refine ST.lift (fun _ _ k => T_aload_n (v := .ref 61) d_PG_tamper_0 rfl (Or.inr ⟨_, rfl⟩) k) ?_
  refine ST.lift (fun _ _ k => T_iload_n d_PG_tamper_1 rfl k) ?_
  refine ST.lift (fun _ _ k => T_iload_n d_PG_tamper_2 rfl k) ?_
  refine ST.lift (fun _ _ k => T_iload_n d_PG_tamper_3 rfl k) ?_
  refine S_virtual (as := [.int (nI 2), .int (nI 3), .int (nI i)]) (rest := []) (b := 61) d_PG_tamper_4 rfl (jw_PG_isOnWire.jo (by decide)) lm_PG_154 ji_PG_isOnWire js_PG_isOnWire (w61 _) rfl rfl rfl (Nat.le_of_ble_eq_true rfl) (by decide) (by decide) (c_PG_isOnWire_2_3_out G v i (by omega) k e50 (by omega) hv) (fun r u1 hq => ?_)
  obtain ⟨hr, hv2, hm3, fe0_u1⟩ := hq
  rw [hr]
  clear hr r
  have hm4 := hm.go hm3 (by intro i hi; simp only [List.mem_cons, List.not_mem_nil, or_false] at hi ⊢ <;> omega)
  have e5 : u1 50 = nI k := (hm3 50 (by decide)).trans e50
  show ST G mi_PG_tamper 7 [(0, .ref 61), (1, .int (nI 2)), (2, .int (nI 3)), (3, .int (nI i)), (4, .int mask)] [.int (nI 0)] u1 0 0 _
  refine S_if_neN d_PG_tamper_7 rfl (by omega) (fun c => by first | exact absurd c (by omega) | exact c.elim | exact absurd c (by decide) | exact absurd (by assumption) c | exact absurd c (by assumption) | exact absurd c (Int32.not_le.mpr (by assumption))) (fun _ => ?_)
  refine ST.lift (fun _ _ k => T_iconst (v := nI 0) d_PG_tamper_10 (by decide) k) ?_
  refine S_topi (y := nI 0) (congrArg nI (by omega)) ?_
  exact S_ret d_PG_tamper_11 rfl (nar_z (by omega)) (by decide) (by decide) (hQ _ hv2 hm4 (fe0_u1.trans (congrArg nI (by omega))))
set_option maxRecDepth 100000 in
set_option maxHeartbeats 4000000 in
theorem c_PG_isOnWire_2_3_in (G : GX) (v : Nat → Int32) (i : Nat) (b_i : i < 2147483648) (k : Nat) (e50 : v 50 = nI k) (hk : i < k ∧ k ≤ 64) (hv : okv v) : CS G mi_PG_isOnWire [.ref 61, .int (nI 2), .int (nI 3), .int (nI i)] v (fun r v' => r = some (.int (nI 1)) ∧ okv v' ∧ mdf [] v v' ∧ v' 50 = nI k) := by
  refine CS.of (by decide) (Nat.le_of_ble_eq_true rfl) ?_
  generalize hQe : (fun (r : Option Value) (v' : Nat → Int32) => r = some (.int (nI 1)) ∧ okv v' ∧ mdf [] v v' ∧ v' 50 = nI k) = Q
  have hQ : ∀ u, okv u → mdf [] v u → u 50 = nI k → Q (some (.int (nI 1))) u := by rw [← hQe]; exact fun u h1 h2 f0 => ⟨rfl, h1, h2, f0⟩
  clear hQe
  have hm : mdf [] v v := mdf.rf
  show ST G mi_PG_isOnWire 0 [(0, .ref 61), (1, .int (nI 2)), (2, .int (nI 3)), (3, .int (nI i))] [] v 0 0 Q
  refine ST.lift (fun _ _ k => T_iload_n d_PG_isOnWire_0 rfl k) ?_
  refine S_static (as := [.int (nI 2)]) (rest := []) d_PG_isOnWire_1 rfl (jw_PG_isSession.jo (by decide)) lm_PG_133 jt_PG_isSession rfl (Nat.le_of_ble_eq_true rfl) (by decide) (by decide) (c_PG_isSession G v 2 (by omega)) (fun r v' hq => ?_)
  rw [hq.1, hq.2]
  clear hq r v'
  show ST G mi_PG_isOnWire 4 [(0, .ref 61), (1, .int (nI 2)), (2, .int (nI 3)), (3, .int (nI i))] [.int (nI 1)] v 0 0 _
  refine S_if_eqN d_PG_isOnWire_4 rfl (by omega) (fun c => by first | exact absurd c (by omega) | exact c.elim | exact absurd c (by decide) | exact absurd (by assumption) c | exact absurd c (by assumption) | exact absurd c (Int32.not_le.mpr (by assumption))) (fun _ => ?_)
  refine ST.lift (fun _ _ k => T_iload_n d_PG_isOnWire_7 rfl k) ?_
  refine ST.lift (fun _ _ k => T_iconst (v := nI 1) d_PG_isOnWire_8 (by decide) k) ?_
  refine S_icmp_ltN d_PG_isOnWire_9 rfl (by omega) (by omega) (fun c => by first | exact absurd c (by omega) | exact c.elim | exact absurd c (by decide) | exact absurd (by assumption) c | exact absurd c (by assumption) | exact absurd c (Int32.not_le.mpr (by assumption))) (fun _ => ?_)
  refine ST.lift (fun _ _ k => T_iload_n d_PG_isOnWire_12 rfl k) ?_
  refine ST.lift (fun _ _ k => T_iconst (v := nI 3) d_PG_isOnWire_13 (by decide) k) ?_
  refine S_icmp_gtN d_PG_isOnWire_14 rfl (by omega) (by omega) (fun c => by first | exact absurd c (by omega) | exact c.elim | exact absurd c (by decide) | exact absurd (by assumption) c | exact absurd c (by assumption) | exact absurd c (Int32.not_le.mpr (by assumption))) (fun _ => ?_)
  refine ST.lift (fun _ _ k => T_aload_n (v := .ref 61) d_PG_isOnWire_17 rfl (Or.inr ⟨_, rfl⟩) k) ?_
  refine S_getfield d_PG_isOnWire_18 fg_PG_34 (w61 _) rfl ?_
  refine ST.lift (fun _ _ k => T_iload_n d_PG_isOnWire_21 rfl k) ?_
  refine S_aaload (C0 := "PasswordGate$Session") d_PG_isOnWire_22 (by decide) (w264 _) rfl (vp_in_nI (by omega) (by omega)) ?_
  refine S_getfield d_PG_isOnWire_23 fg_PG_158 (w317 _) rfl ?_
  refine ST.lift (fun _ _ k => T_iload_n d_PG_isOnWire_26 rfl k) ?_
  refine ST.lift (fun _ _ k => T_iconst (v := nI 1) d_PG_isOnWire_27 (by decide) k) ?_
  refine S_isubN d_PG_isOnWire_28 (by omega) ?_
  refine S_topi (y := nI 2) (by decide) ?_
  refine S_aaload (C0 := "PasswordGate$Bytes") d_PG_isOnWire_29 (by decide) (w318 _) rfl (vp_in_nI (by omega) (by omega)) ?_
  refine ST.lift (fun _ _ k => T_iload_n d_PG_isOnWire_30 rfl k) ?_
  refine S_virtual (as := [.int (nI i)]) (rest := []) (b := 335) d_PG_isOnWire_31 rfl (jw_By_has.jo (by decide)) lm_PG_119 ji_By_has js_By_has (w335 _) rfl rfl rfl (Nat.le_of_ble_eq_true rfl) (by decide) (by decide) (c_By_has_in G v 335 336 64 50 ⟨w335, a336, by decide, u335_1, by decide, by decide⟩ i (by omega) k e50 (by omega) hv) (fun r u1 hq => ?_)
  obtain ⟨hr, hv2, hm3, fe0_u1⟩ := hq
  rw [hr]
  clear hr r
  have hm4 := hm.go hm3 (by intro i hi; simp only [List.mem_cons, List.not_mem_nil, or_false] at hi ⊢ <;> omega)
  have e5 : u1 50 = nI k := (hm3 50 (by decide)).trans e50
  show ST G mi_PG_isOnWire 34 [(0, .ref 61), (1, .int (nI 2)), (2, .int (nI 3)), (3, .int (nI i))] [.int (nI 1)] u1 0 0 _
  refine S_if_eqN d_PG_isOnWire_34 rfl (by omega) (fun c => by first | exact absurd c (by omega) | exact c.elim | exact absurd c (by decide) | exact absurd (by assumption) c | exact absurd c (by assumption) | exact absurd c (Int32.not_le.mpr (by assumption))) (fun _ => ?_)
  refine ST.lift (fun _ _ k => T_iconst (v := nI 1) d_PG_isOnWire_37 (by decide) k) ?_
  refine ST.lift (fun _ _ k => T_goto (tgt := 42) d_PG_isOnWire_38 rfl k) ?_
  refine S_topi (y := nI 1) (congrArg nI (by omega)) ?_
  exact S_ret d_PG_isOnWire_42 rfl (nar_z (by omega)) (by decide) (by decide) (hQ _ hv2 hm4 (fe0_u1.trans (congrArg nI (by omega))))
set_option maxRecDepth 100000 in
set_option maxHeartbeats 4000000 in
theorem c_PG_wire_2_3_in (G : GX) (v : Nat → Int32) (i : Nat) (b_i : i < 2147483648) (k : Nat) (e50 : v 50 = nI k) (hk : i < k ∧ k ≤ 64) (hv : okv v) : CS G mi_PG_wire [.ref 61, .int (nI 2), .int (nI 3), .int (nI i)] v (fun r v' => ∃ z : Int32, r = some (.int z) ∧ okv v' ∧ mdf [] v v' ∧ v' 50 = nI k) := by
  refine CS.of (by decide) (Nat.le_of_ble_eq_true rfl) ?_
  generalize hQe : (fun (r : Option Value) (v' : Nat → Int32) => ∃ z : Int32, r = some (.int z) ∧ okv v' ∧ mdf [] v v' ∧ v' 50 = nI k) = Q
  have hQ : ∀ (z : Int32) (u : Nat → Int32), okv u → mdf [] v u → u 50 = nI k → Q (some (.int z)) u := by rw [← hQe]; exact fun z u h1 h2 f0 => ⟨z, rfl, h1, h2, f0⟩
  clear hQe
  have hm : mdf [] v v := mdf.rf
  show ST G mi_PG_wire 0 [(0, .ref 61), (1, .int (nI 2)), (2, .int (nI 3)), (3, .int (nI i))] [] v 0 0 Q
  refine ST.lift (fun _ _ k => T_aload_n (v := .ref 61) d_PG_wire_0 rfl (Or.inr ⟨_, rfl⟩) k) ?_
  refine ST.lift (fun _ _ k => T_iload_n d_PG_wire_1 rfl k) ?_
  refine ST.lift (fun _ _ k => T_iload_n d_PG_wire_2 rfl k) ?_
  refine ST.lift (fun _ _ k => T_iload_n d_PG_wire_3 rfl k) ?_
  refine S_virtual (as := [.int (nI 2), .int (nI 3), .int (nI i)]) (rest := []) (b := 61) d_PG_wire_4 rfl (jw_PG_isOnWire.jo (by decide)) lm_PG_154 ji_PG_isOnWire js_PG_isOnWire (w61 _) rfl rfl rfl (Nat.le_of_ble_eq_true rfl) (by decide) (by decide) (c_PG_isOnWire_2_3_in G v i (by omega) k e50 (by omega) hv) (fun r u1 hq => ?_)
  obtain ⟨hr, hv2, hm3, fe0_u1⟩ := hq
  rw [hr]
  clear hr r
  have hm4 := hm.go hm3 (by intro i hi; simp only [List.mem_cons, List.not_mem_nil, or_false] at hi ⊢ <;> omega)
  have e5 : u1 50 = nI k := (hm3 50 (by decide)).trans e50
  show ST G mi_PG_wire 7 [(0, .ref 61), (1, .int (nI 2)), (2, .int (nI 3)), (3, .int (nI i))] [.int (nI 1)] u1 0 0 _
  refine S_if_neN d_PG_wire_7 rfl (by omega) (fun _ => ?_) (fun c => by first | exact absurd c (by omega) | exact c.elim | exact absurd c (by decide) | exact absurd (by assumption) c | exact absurd c (by assumption) | exact absurd c (Int32.not_le.mpr (by assumption)))
  refine ST.lift (fun _ _ k => T_aload_n (v := .ref 61) d_PG_wire_18 rfl (Or.inr ⟨_, rfl⟩) k) ?_
  refine S_getfield d_PG_wire_19 fg_PG_34 (w61 _) rfl ?_
  refine ST.lift (fun _ _ k => T_iload_n d_PG_wire_22 rfl k) ?_
  refine S_aaload (C0 := "PasswordGate$Session") d_PG_wire_23 (by decide) (w264 _) rfl (vp_in_nI (by omega) (by omega)) ?_
  refine S_getfield d_PG_wire_24 fg_PG_158 (w317 _) rfl ?_
  refine ST.lift (fun _ _ k => T_iload_n d_PG_wire_27 rfl k) ?_
  refine ST.lift (fun _ _ k => T_iconst (v := nI 1) d_PG_wire_28 (by decide) k) ?_
  refine S_isubN d_PG_wire_29 (by omega) ?_
  refine S_topi (y := nI 2) (by decide) ?_
  refine S_aaload (C0 := "PasswordGate$Bytes") d_PG_wire_30 (by decide) (w318 _) rfl (vp_in_nI (by omega) (by omega)) ?_
  refine S_getfield d_PG_wire_31 fg_PG_93 (w335 _) rfl ?_
  refine ST.lift (fun _ _ k => T_iload_n d_PG_wire_34 rfl k) ?_
  refine S_baload d_PG_wire_35 a336 (vp_in_nI (by omega) (by omega)) (fun z6 hz6 => ?_)
  refine ST.lift (fun _ _ k => T_sipush (v := nI 255) d_PG_wire_36 (by decide) k) ?_
  refine S_iandM 8 d_PG_wire_39 (by decide) (by decide) (fun j7 hj7 => ?_)
  simp only [Nat.reducePow] at hj7
  exact S_ret d_PG_wire_40 rfl rfl (by decide) (by decide) (hQ _ _ hv2 hm4 (fe0_u1.trans (congrArg nI (by omega))))
set_option maxRecDepth 100000 in
set_option maxHeartbeats 4000000 in
theorem c_PG_key_2_0_in (G : GX) (v : Nat → Int32) (i : Nat) (b_i : i < 2147483648) (k : Nat) (e51 : v 51 = nI k) (hk : i < k ∧ k ≤ 64) (hv : okv v) : CS G mi_PG_key [.ref 61, .int (nI 2), .int (nI 0), .int (nI i)] v (fun r v' => ∃ z : Int32, r = some (.int z) ∧ okv v' ∧ mdf [] v v' ∧ v' 51 = nI k) := by
  refine CS.of (by decide) (Nat.le_of_ble_eq_true rfl) ?_
  generalize hQe : (fun (r : Option Value) (v' : Nat → Int32) => ∃ z : Int32, r = some (.int z) ∧ okv v' ∧ mdf [] v v' ∧ v' 51 = nI k) = Q
  have hQ : ∀ (z : Int32) (u : Nat → Int32), okv u → mdf [] v u → u 51 = nI k → Q (some (.int z)) u := by rw [← hQe]; exact fun z u h1 h2 f0 => ⟨z, rfl, h1, h2, f0⟩
  clear hQe
  have hm : mdf [] v v := mdf.rf
  show ST G mi_PG_key 0 [(0, .ref 61), (1, .int (nI 2)), (2, .int (nI 0)), (3, .int (nI i))] [] v 0 0 Q
  refine ST.lift (fun _ _ k => T_iload_n d_PG_key_0 rfl k) ?_
  refine S_static (as := [.int (nI 2)]) (rest := []) d_PG_key_1 rfl (jw_PG_isSession.jo (by decide)) lm_PG_133 jt_PG_isSession rfl (Nat.le_of_ble_eq_true rfl) (by decide) (by decide) (c_PG_isSession G v 2 (by omega)) (fun r v' hq => ?_)
  rw [hq.1, hq.2]
  clear hq r v'
  show ST G mi_PG_key 4 [(0, .ref 61), (1, .int (nI 2)), (2, .int (nI 0)), (3, .int (nI i))] [.int (nI 1)] v 0 0 _
  refine S_if_eqN d_PG_key_4 rfl (by omega) (fun c => by first | exact absurd c (by omega) | exact c.elim | exact absurd c (by decide) | exact absurd (by assumption) c | exact absurd c (by assumption) | exact absurd c (Int32.not_le.mpr (by assumption))) (fun _ => ?_)
  refine ST.lift (fun _ _ k => T_iload_n d_PG_key_7 rfl k) ?_
  refine S_if_ltN d_PG_key_8 rfl (by omega) (fun c => by first | exact absurd c (by omega) | exact c.elim | exact absurd c (by decide) | exact absurd (by assumption) c | exact absurd c (by assumption) | exact absurd c (Int32.not_le.mpr (by assumption))) (fun _ => ?_)
  refine ST.lift (fun _ _ k => T_iload_n d_PG_key_11 rfl k) ?_
  refine ST.lift (fun _ _ k => T_iconst (v := nI 2) d_PG_key_12 (by decide) k) ?_
  refine S_icmp_gtN d_PG_key_13 rfl (by omega) (by omega) (fun c => by first | exact absurd c (by omega) | exact c.elim | exact absurd c (by decide) | exact absurd (by assumption) c | exact absurd c (by assumption) | exact absurd c (Int32.not_le.mpr (by assumption))) (fun _ => ?_)
  refine ST.lift (fun _ _ k => T_aload_n (v := .ref 61) d_PG_key_16 rfl (Or.inr ⟨_, rfl⟩) k) ?_
  refine S_getfield d_PG_key_17 fg_PG_34 (w61 _) rfl ?_
  refine ST.lift (fun _ _ k => T_iload_n d_PG_key_20 rfl k) ?_
  refine S_aaload (C0 := "PasswordGate$Session") d_PG_key_21 (by decide) (w264 _) rfl (vp_in_nI (by omega) (by omega)) ?_
  refine S_getfield d_PG_key_22 fg_PG_162 (w317 _) rfl ?_
  refine ST.lift (fun _ _ k => T_iload_n d_PG_key_25 rfl k) ?_
  refine S_aaload (C0 := "PasswordGate$Bytes") d_PG_key_26 (by decide) (w319 _) rfl (vp_in_nI (by omega) (by omega)) ?_
  refine ST.lift (fun _ _ k => T_iload_n d_PG_key_27 rfl k) ?_
  refine S_virtual (as := [.int (nI i)]) (rest := []) (b := 337) d_PG_key_28 rfl (jw_By_has.jo (by decide)) lm_PG_119 ji_By_has js_By_has (w337 _) rfl rfl rfl (Nat.le_of_ble_eq_true rfl) (by decide) (by decide) (c_By_has_in G v 337 338 64 51 ⟨w337, a338, by decide, u337_1, by decide, by decide⟩ i (by omega) k e51 (by omega) hv) (fun r u1 hq => ?_)
  obtain ⟨hr, hv2, hm3, fe0_u1⟩ := hq
  rw [hr]
  clear hr r
  have hm4 := hm.go hm3 (by intro i hi; simp only [List.mem_cons, List.not_mem_nil, or_false] at hi ⊢ <;> omega)
  have e5 : u1 51 = nI k := (hm3 51 (by decide)).trans e51
  show ST G mi_PG_key 31 [(0, .ref 61), (1, .int (nI 2)), (2, .int (nI 0)), (3, .int (nI i))] [.int (nI 1)] u1 0 0 _
  refine S_if_neN d_PG_key_31 rfl (by omega) (fun _ => ?_) (fun c => by first | exact absurd c (by omega) | exact c.elim | exact absurd c (by decide) | exact absurd (by assumption) c | exact absurd c (by assumption) | exact absurd c (Int32.not_le.mpr (by assumption)))
  refine ST.lift (fun _ _ k => T_aload_n (v := .ref 61) d_PG_key_42 rfl (Or.inr ⟨_, rfl⟩) k) ?_
  refine S_getfield d_PG_key_43 fg_PG_34 (w61 _) rfl ?_
  refine ST.lift (fun _ _ k => T_iload_n d_PG_key_46 rfl k) ?_
  refine S_aaload (C0 := "PasswordGate$Session") d_PG_key_47 (by decide) (w264 _) rfl (vp_in_nI (by omega) (by omega)) ?_
  refine S_getfield d_PG_key_48 fg_PG_162 (w317 _) rfl ?_
  refine ST.lift (fun _ _ k => T_iload_n d_PG_key_51 rfl k) ?_
  refine S_aaload (C0 := "PasswordGate$Bytes") d_PG_key_52 (by decide) (w319 _) rfl (vp_in_nI (by omega) (by omega)) ?_
  refine S_getfield d_PG_key_53 fg_PG_93 (w337 _) rfl ?_
  refine ST.lift (fun _ _ k => T_iload_n d_PG_key_56 rfl k) ?_
  refine S_baload d_PG_key_57 a338 (vp_in_nI (by omega) (by omega)) (fun z6 hz6 => ?_)
  refine ST.lift (fun _ _ k => T_sipush (v := nI 255) d_PG_key_58 (by decide) k) ?_
  refine S_iandM 8 d_PG_key_61 (by decide) (by decide) (fun j7 hj7 => ?_)
  simp only [Nat.reducePow] at hj7
  exact S_ret d_PG_key_62 rfl rfl (by decide) (by decide) (hQ _ _ hv2 hm4 (fe0_u1.trans (congrArg nI (by omega))))
set_option maxRecDepth 100000 in
set_option maxHeartbeats 4000000 in
theorem c_PG_key_2_1_in (G : GX) (v : Nat → Int32) (i : Nat) (b_i : i < 2147483648) (k : Nat) (e52 : v 52 = nI k) (hk : i < k ∧ k ≤ 64) (hv : okv v) : CS G mi_PG_key [.ref 61, .int (nI 2), .int (nI 1), .int (nI i)] v (fun r v' => ∃ z : Int32, r = some (.int z) ∧ okv v' ∧ mdf [] v v' ∧ v' 52 = nI k) := by
  refine CS.of (by decide) (Nat.le_of_ble_eq_true rfl) ?_
  generalize hQe : (fun (r : Option Value) (v' : Nat → Int32) => ∃ z : Int32, r = some (.int z) ∧ okv v' ∧ mdf [] v v' ∧ v' 52 = nI k) = Q
  have hQ : ∀ (z : Int32) (u : Nat → Int32), okv u → mdf [] v u → u 52 = nI k → Q (some (.int z)) u := by rw [← hQe]; exact fun z u h1 h2 f0 => ⟨z, rfl, h1, h2, f0⟩
  clear hQe
  have hm : mdf [] v v := mdf.rf
  show ST G mi_PG_key 0 [(0, .ref 61), (1, .int (nI 2)), (2, .int (nI 1)), (3, .int (nI i))] [] v 0 0 Q
  refine ST.lift (fun _ _ k => T_iload_n d_PG_key_0 rfl k) ?_
  refine S_static (as := [.int (nI 2)]) (rest := []) d_PG_key_1 rfl (jw_PG_isSession.jo (by decide)) lm_PG_133 jt_PG_isSession rfl (Nat.le_of_ble_eq_true rfl) (by decide) (by decide) (c_PG_isSession G v 2 (by omega)) (fun r v' hq => ?_)
  rw [hq.1, hq.2]
  clear hq r v'
  show ST G mi_PG_key 4 [(0, .ref 61), (1, .int (nI 2)), (2, .int (nI 1)), (3, .int (nI i))] [.int (nI 1)] v 0 0 _
  refine S_if_eqN d_PG_key_4 rfl (by omega) (fun c => by first | exact absurd c (by omega) | exact c.elim | exact absurd c (by decide) | exact absurd (by assumption) c | exact absurd c (by assumption) | exact absurd c (Int32.not_le.mpr (by assumption))) (fun _ => ?_)
  refine ST.lift (fun _ _ k => T_iload_n d_PG_key_7 rfl k) ?_
  refine S_if_ltN d_PG_key_8 rfl (by omega) (fun c => by first | exact absurd c (by omega) | exact c.elim | exact absurd c (by decide) | exact absurd (by assumption) c | exact absurd c (by assumption) | exact absurd c (Int32.not_le.mpr (by assumption))) (fun _ => ?_)
  refine ST.lift (fun _ _ k => T_iload_n d_PG_key_11 rfl k) ?_
  refine ST.lift (fun _ _ k => T_iconst (v := nI 2) d_PG_key_12 (by decide) k) ?_
  refine S_icmp_gtN d_PG_key_13 rfl (by omega) (by omega) (fun c => by first | exact absurd c (by omega) | exact c.elim | exact absurd c (by decide) | exact absurd (by assumption) c | exact absurd c (by assumption) | exact absurd c (Int32.not_le.mpr (by assumption))) (fun _ => ?_)
  refine ST.lift (fun _ _ k => T_aload_n (v := .ref 61) d_PG_key_16 rfl (Or.inr ⟨_, rfl⟩) k) ?_
  refine S_getfield d_PG_key_17 fg_PG_34 (w61 _) rfl ?_
  refine ST.lift (fun _ _ k => T_iload_n d_PG_key_20 rfl k) ?_
  refine S_aaload (C0 := "PasswordGate$Session") d_PG_key_21 (by decide) (w264 _) rfl (vp_in_nI (by omega) (by omega)) ?_
  refine S_getfield d_PG_key_22 fg_PG_162 (w317 _) rfl ?_
  refine ST.lift (fun _ _ k => T_iload_n d_PG_key_25 rfl k) ?_
  refine S_aaload (C0 := "PasswordGate$Bytes") d_PG_key_26 (by decide) (w319 _) rfl (vp_in_nI (by omega) (by omega)) ?_
  refine ST.lift (fun _ _ k => T_iload_n d_PG_key_27 rfl k) ?_
  refine S_virtual (as := [.int (nI i)]) (rest := []) (b := 339) d_PG_key_28 rfl (jw_By_has.jo (by decide)) lm_PG_119 ji_By_has js_By_has (w339 _) rfl rfl rfl (Nat.le_of_ble_eq_true rfl) (by decide) (by decide) (c_By_has_in G v 339 340 64 52 ⟨w339, a340, by decide, u339_1, by decide, by decide⟩ i (by omega) k e52 (by omega) hv) (fun r u1 hq => ?_)
  obtain ⟨hr, hv2, hm3, fe0_u1⟩ := hq
  rw [hr]
  clear hr r
  have hm4 := hm.go hm3 (by intro i hi; simp only [List.mem_cons, List.not_mem_nil, or_false] at hi ⊢ <;> omega)
  have e5 : u1 52 = nI k := (hm3 52 (by decide)).trans e52
  show ST G mi_PG_key 31 [(0, .ref 61), (1, .int (nI 2)), (2, .int (nI 1)), (3, .int (nI i))] [.int (nI 1)] u1 0 0 _
  refine S_if_neN d_PG_key_31 rfl (by omega) (fun _ => ?_) (fun c => by first | exact absurd c (by omega) | exact c.elim | exact absurd c (by decide) | exact absurd (by assumption) c | exact absurd c (by assumption) | exact absurd c (Int32.not_le.mpr (by assumption)))
  refine ST.lift (fun _ _ k => T_aload_n (v := .ref 61) d_PG_key_42 rfl (Or.inr ⟨_, rfl⟩) k) ?_
  refine S_getfield d_PG_key_43 fg_PG_34 (w61 _) rfl ?_
  refine ST.lift (fun _ _ k => T_iload_n d_PG_key_46 rfl k) ?_
  refine S_aaload (C0 := "PasswordGate$Session") d_PG_key_47 (by decide) (w264 _) rfl (vp_in_nI (by omega) (by omega)) ?_
  refine S_getfield d_PG_key_48 fg_PG_162 (w317 _) rfl ?_
  refine ST.lift (fun _ _ k => T_iload_n d_PG_key_51 rfl k) ?_
  refine S_aaload (C0 := "PasswordGate$Bytes") d_PG_key_52 (by decide) (w319 _) rfl (vp_in_nI (by omega) (by omega)) ?_
  refine S_getfield d_PG_key_53 fg_PG_93 (w339 _) rfl ?_
  refine ST.lift (fun _ _ k => T_iload_n d_PG_key_56 rfl k) ?_
  refine S_baload d_PG_key_57 a340 (vp_in_nI (by omega) (by omega)) (fun z6 hz6 => ?_)
  refine ST.lift (fun _ _ k => T_sipush (v := nI 255) d_PG_key_58 (by decide) k) ?_
  refine S_iandM 8 d_PG_key_61 (by decide) (by decide) (fun j7 hj7 => ?_)
  simp only [Nat.reducePow] at hj7
  exact S_ret d_PG_key_62 rfl rfl (by decide) (by decide) (hQ _ _ hv2 hm4 (fe0_u1.trans (congrArg nI (by omega))))
set_option maxRecDepth 100000 in
set_option maxHeartbeats 4000000 in
theorem c_PG_key_2_2_in (G : GX) (v : Nat → Int32) (i : Nat) (b_i : i < 2147483648) (k : Nat) (e53 : v 53 = nI k) (hk : i < k ∧ k ≤ 64) (hv : okv v) : CS G mi_PG_key [.ref 61, .int (nI 2), .int (nI 2), .int (nI i)] v (fun r v' => ∃ z : Int32, r = some (.int z) ∧ okv v' ∧ mdf [] v v' ∧ v' 53 = nI k) := by
  refine CS.of (by decide) (Nat.le_of_ble_eq_true rfl) ?_
  generalize hQe : (fun (r : Option Value) (v' : Nat → Int32) => ∃ z : Int32, r = some (.int z) ∧ okv v' ∧ mdf [] v v' ∧ v' 53 = nI k) = Q
  have hQ : ∀ (z : Int32) (u : Nat → Int32), okv u → mdf [] v u → u 53 = nI k → Q (some (.int z)) u := by rw [← hQe]; exact fun z u h1 h2 f0 => ⟨z, rfl, h1, h2, f0⟩
  clear hQe
  have hm : mdf [] v v := mdf.rf
  show ST G mi_PG_key 0 [(0, .ref 61), (1, .int (nI 2)), (2, .int (nI 2)), (3, .int (nI i))] [] v 0 0 Q
  refine ST.lift (fun _ _ k => T_iload_n d_PG_key_0 rfl k) ?_
  refine S_static (as := [.int (nI 2)]) (rest := []) d_PG_key_1 rfl (jw_PG_isSession.jo (by decide)) lm_PG_133 jt_PG_isSession rfl (Nat.le_of_ble_eq_true rfl) (by decide) (by decide) (c_PG_isSession G v 2 (by omega)) (fun r v' hq => ?_)
  rw [hq.1, hq.2]
  clear hq r v'
  show ST G mi_PG_key 4 [(0, .ref 61), (1, .int (nI 2)), (2, .int (nI 2)), (3, .int (nI i))] [.int (nI 1)] v 0 0 _
  refine S_if_eqN d_PG_key_4 rfl (by omega) (fun c => by first | exact absurd c (by omega) | exact c.elim | exact absurd c (by decide) | exact absurd (by assumption) c | exact absurd c (by assumption) | exact absurd c (Int32.not_le.mpr (by assumption))) (fun _ => ?_)
  refine ST.lift (fun _ _ k => T_iload_n d_PG_key_7 rfl k) ?_
  refine S_if_ltN d_PG_key_8 rfl (by omega) (fun c => by first | exact absurd c (by omega) | exact c.elim | exact absurd c (by decide) | exact absurd (by assumption) c | exact absurd c (by assumption) | exact absurd c (Int32.not_le.mpr (by assumption))) (fun _ => ?_)
  refine ST.lift (fun _ _ k => T_iload_n d_PG_key_11 rfl k) ?_
  refine ST.lift (fun _ _ k => T_iconst (v := nI 2) d_PG_key_12 (by decide) k) ?_
  refine S_icmp_gtN d_PG_key_13 rfl (by omega) (by omega) (fun c => by first | exact absurd c (by omega) | exact c.elim | exact absurd c (by decide) | exact absurd (by assumption) c | exact absurd c (by assumption) | exact absurd c (Int32.not_le.mpr (by assumption))) (fun _ => ?_)
  refine ST.lift (fun _ _ k => T_aload_n (v := .ref 61) d_PG_key_16 rfl (Or.inr ⟨_, rfl⟩) k) ?_
  refine S_getfield d_PG_key_17 fg_PG_34 (w61 _) rfl ?_
  refine ST.lift (fun _ _ k => T_iload_n d_PG_key_20 rfl k) ?_
  refine S_aaload (C0 := "PasswordGate$Session") d_PG_key_21 (by decide) (w264 _) rfl (vp_in_nI (by omega) (by omega)) ?_
  refine S_getfield d_PG_key_22 fg_PG_162 (w317 _) rfl ?_
  refine ST.lift (fun _ _ k => T_iload_n d_PG_key_25 rfl k) ?_
  refine S_aaload (C0 := "PasswordGate$Bytes") d_PG_key_26 (by decide) (w319 _) rfl (vp_in_nI (by omega) (by omega)) ?_
  refine ST.lift (fun _ _ k => T_iload_n d_PG_key_27 rfl k) ?_
  refine S_virtual (as := [.int (nI i)]) (rest := []) (b := 341) d_PG_key_28 rfl (jw_By_has.jo (by decide)) lm_PG_119 ji_By_has js_By_has (w341 _) rfl rfl rfl (Nat.le_of_ble_eq_true rfl) (by decide) (by decide) (c_By_has_in G v 341 342 64 53 ⟨w341, a342, by decide, u341_1, by decide, by decide⟩ i (by omega) k e53 (by omega) hv) (fun r u1 hq => ?_)
  obtain ⟨hr, hv2, hm3, fe0_u1⟩ := hq
  rw [hr]
  clear hr r
  have hm4 := hm.go hm3 (by intro i hi; simp only [List.mem_cons, List.not_mem_nil, or_false] at hi ⊢ <;> omega)
  have e5 : u1 53 = nI k := (hm3 53 (by decide)).trans e53
  show ST G mi_PG_key 31 [(0, .ref 61), (1, .int (nI 2)), (2, .int (nI 2)), (3, .int (nI i))] [.int (nI 1)] u1 0 0 _
  refine S_if_neN d_PG_key_31 rfl (by omega) (fun _ => ?_) (fun c => by first | exact absurd c (by omega) | exact c.elim | exact absurd c (by decide) | exact absurd (by assumption) c | exact absurd c (by assumption) | exact absurd c (Int32.not_le.mpr (by assumption)))
  refine ST.lift (fun _ _ k => T_aload_n (v := .ref 61) d_PG_key_42 rfl (Or.inr ⟨_, rfl⟩) k) ?_
  refine S_getfield d_PG_key_43 fg_PG_34 (w61 _) rfl ?_
  refine ST.lift (fun _ _ k => T_iload_n d_PG_key_46 rfl k) ?_
  refine S_aaload (C0 := "PasswordGate$Session") d_PG_key_47 (by decide) (w264 _) rfl (vp_in_nI (by omega) (by omega)) ?_
  refine S_getfield d_PG_key_48 fg_PG_162 (w317 _) rfl ?_
  refine ST.lift (fun _ _ k => T_iload_n d_PG_key_51 rfl k) ?_
  refine S_aaload (C0 := "PasswordGate$Bytes") d_PG_key_52 (by decide) (w319 _) rfl (vp_in_nI (by omega) (by omega)) ?_
  refine S_getfield d_PG_key_53 fg_PG_93 (w341 _) rfl ?_
  refine ST.lift (fun _ _ k => T_iload_n d_PG_key_56 rfl k) ?_
  refine S_baload d_PG_key_57 a342 (vp_in_nI (by omega) (by omega)) (fun z6 hz6 => ?_)
  refine ST.lift (fun _ _ k => T_sipush (v := nI 255) d_PG_key_58 (by decide) k) ?_
  refine S_iandM 8 d_PG_key_61 (by decide) (by decide) (fun j7 hj7 => ?_)
  simp only [Nat.reducePow] at hj7
  exact S_ret d_PG_key_62 rfl rfl (by decide) (by decide) (hQ _ _ hv2 hm4 (fe0_u1.trans (congrArg nI (by omega))))
set_option maxRecDepth 100000 in
set_option maxHeartbeats 4000000 in
theorem c_PG_isOnWire_3_mlt (G : GX) (v : Nat → Int32) (y : Int32) (z : Int32) (hy_m : y < nI 1) (hv : okv v) : CS G mi_PG_isOnWire [.ref 61, .int (nI 3), .int y, .int z] v (fun r v' => r = some (.int (nI 0)) ∧ okv v' ∧ mdf [] v v') := by
  refine CS.of (by decide) (Nat.le_of_ble_eq_true rfl) ?_
  generalize hQe : (fun (r : Option Value) (v' : Nat → Int32) => r = some (.int (nI 0)) ∧ okv v' ∧ mdf [] v v') = Q
  have hQ : ∀ u, okv u → mdf [] v u → Q (some (.int (nI 0))) u := by rw [← hQe]; exact fun u h1 h2  => ⟨rfl, h1, h2⟩
  clear hQe
  have hm : mdf [] v v := mdf.rf
  show ST G mi_PG_isOnWire 0 [(0, .ref 61), (1, .int (nI 3)), (2, .int y), (3, .int z)] [] v 0 0 Q
  refine ST.lift (fun _ _ k => T_iload_n d_PG_isOnWire_0 rfl k) ?_
  refine S_static (as := [.int (nI 3)]) (rest := []) d_PG_isOnWire_1 rfl (jw_PG_isSession.jo (by decide)) lm_PG_133 jt_PG_isSession rfl (Nat.le_of_ble_eq_true rfl) (by decide) (by decide) (c_PG_isSession G v 3 (by omega)) (fun r v' hq => ?_)
  rw [hq.1, hq.2]
  clear hq r v'
  show ST G mi_PG_isOnWire 4 [(0, .ref 61), (1, .int (nI 3)), (2, .int y), (3, .int z)] [.int (nI 1)] v 0 0 _
  refine S_if_eqN d_PG_isOnWire_4 rfl (by omega) (fun c => by first | exact absurd c (by omega) | exact c.elim | exact absurd c (by decide) | exact absurd (by assumption) c | exact absurd c (by assumption) | exact absurd c (Int32.not_le.mpr (by assumption))) (fun _ => ?_)
  refine ST.lift (fun _ _ k => T_iload_n d_PG_isOnWire_7 rfl k) ?_
  refine ST.lift (fun _ _ k => T_iconst (v := nI 1) d_PG_isOnWire_8 (by decide) k) ?_
  refine S_icmp_lt d_PG_isOnWire_9 rfl (fun _ => ?_) (fun c => by first | exact absurd c (by omega) | exact c.elim | exact absurd c (by decide) | exact absurd (by assumption) c | exact absurd c (by assumption) | exact absurd c (Int32.not_le.mpr (by assumption)))
  refine ST.lift (fun _ _ k => T_iconst (v := nI 0) d_PG_isOnWire_41 (by decide) k) ?_
  refine S_topi (y := nI 0) (congrArg nI (by omega)) ?_
  exact S_ret d_PG_isOnWire_42 rfl (nar_z (by omega)) (by decide) (by decide) (hQ _ hv hm)
set_option maxRecDepth 100000 in
set_option maxHeartbeats 4000000 in
theorem c_PG_tamper_3_mlt (G : GX) (v : Nat → Int32) (y : Int32) (z : Int32) (mask : Int32) (hy_m : y < nI 1) (hv : okv v) : CS G mi_PG_tamper [.ref 61, .int (nI 3), .int y, .int z, .int mask] v (fun r v' => r = some (.int (nI 0)) ∧ okv v' ∧ mdf [] v v') := by
  refine CS.of (by decide) (Nat.le_of_ble_eq_true rfl) ?_
  generalize hQe : (fun (r : Option Value) (v' : Nat → Int32) => r = some (.int (nI 0)) ∧ okv v' ∧ mdf [] v v') = Q
  have hQ : ∀ u, okv u → mdf [] v u → Q (some (.int (nI 0))) u := by rw [← hQe]; exact fun u h1 h2  => ⟨rfl, h1, h2⟩
  clear hQe
  have hm : mdf [] v v := mdf.rf
  show ST G mi_PG_tamper 0 [(0, .ref 61), (1, .int (nI 3)), (2, .int y), (3, .int z), (4, .int mask)] [] v 0 0 Q
  refine ST.lift (fun _ _ k => T_aload_n (v := .ref 61) d_PG_tamper_0 rfl (Or.inr ⟨_, rfl⟩) k) ?_
  refine ST.lift (fun _ _ k => T_iload_n d_PG_tamper_1 rfl k) ?_
  refine ST.lift (fun _ _ k => T_iload_n d_PG_tamper_2 rfl k) ?_
  refine ST.lift (fun _ _ k => T_iload_n d_PG_tamper_3 rfl k) ?_
  refine S_virtual (as := [.int (nI 3), .int y, .int z]) (rest := []) (b := 61) d_PG_tamper_4 rfl (jw_PG_isOnWire.jo (by decide)) lm_PG_154 ji_PG_isOnWire js_PG_isOnWire (w61 _) rfl rfl rfl (Nat.le_of_ble_eq_true rfl) (by decide) (by decide) (c_PG_isOnWire_3_mlt G v y z hy_m hv) (fun r u1 hq => ?_)
  obtain ⟨hr, hv2, hm3⟩ := hq
  rw [hr]
  clear hr r
  have hm4 := hm.go hm3 (by intro i hi; simp only [List.mem_cons, List.not_mem_nil, or_false] at hi ⊢ <;> omega)
  show ST G mi_PG_tamper 7 [(0, .ref 61), (1, .int (nI 3)), (2, .int y), (3, .int z), (4, .int mask)] [.int (nI 0)] u1 0 0 _
  refine S_if_neN d_PG_tamper_7 rfl (by omega) (fun c => by first | exact absurd c (by omega) | exact c.elim | exact absurd c (by decide) | exact absurd (by assumption) c | exact absurd c (by assumption) | exact absurd c (Int32.not_le.mpr (by assumption))) (fun _ => ?_)
  refine ST.lift (fun _ _ k => T_iconst (v := nI 0) d_PG_tamper_10 (by decide) k) ?_
  refine S_topi (y := nI 0) (congrArg nI (by omega)) ?_
  exact S_ret d_PG_tamper_11 rfl (nar_z (by omega)) (by decide) (by decide) (hQ _ hv2 hm4)
set_option maxRecDepth 100000 in
set_option maxHeartbeats 4000000 in
theorem c_PG_isOnWire_3_mgt (G : GX) (v : Nat → Int32) (y : Int32) (z : Int32) (h0_m : ¬ y < nI 1) (hy_m : nI 3 < y) (hv : okv v) : CS G mi_PG_isOnWire [.ref 61, .int (nI 3), .int y, .int z] v (fun r v' => r = some (.int (nI 0)) ∧ okv v' ∧ mdf [] v v') := by
  refine CS.of (by decide) (Nat.le_of_ble_eq_true rfl) ?_
  generalize hQe : (fun (r : Option Value) (v' : Nat → Int32) => r = some (.int (nI 0)) ∧ okv v' ∧ mdf [] v v') = Q
  have hQ : ∀ u, okv u → mdf [] v u → Q (some (.int (nI 0))) u := by rw [← hQe]; exact fun u h1 h2  => ⟨rfl, h1, h2⟩
  clear hQe
  have hm : mdf [] v v := mdf.rf
  show ST G mi_PG_isOnWire 0 [(0, .ref 61), (1, .int (nI 3)), (2, .int y), (3, .int z)] [] v 0 0 Q
  refine ST.lift (fun _ _ k => T_iload_n d_PG_isOnWire_0 rfl k) ?_
  refine S_static (as := [.int (nI 3)]) (rest := []) d_PG_isOnWire_1 rfl (jw_PG_isSession.jo (by decide)) lm_PG_133 jt_PG_isSession rfl (Nat.le_of_ble_eq_true rfl) (by decide) (by decide) (c_PG_isSession G v 3 (by omega)) (fun r v' hq => ?_)
  rw [hq.1, hq.2]
  clear hq r v'
  show ST G mi_PG_isOnWire 4 [(0, .ref 61), (1, .int (nI 3)), (2, .int y), (3, .int z)] [.int (nI 1)] v 0 0 _
  refine S_if_eqN d_PG_isOnWire_4 rfl (by omega) (fun c => by first | exact absurd c (by omega) | exact c.elim | exact absurd c (by decide) | exact absurd (by assumption) c | exact absurd c (by assumption) | exact absurd c (Int32.not_le.mpr (by assumption))) (fun _ => ?_)
  refine ST.lift (fun _ _ k => T_iload_n d_PG_isOnWire_7 rfl k) ?_
  refine ST.lift (fun _ _ k => T_iconst (v := nI 1) d_PG_isOnWire_8 (by decide) k) ?_
  refine S_icmp_lt d_PG_isOnWire_9 rfl (fun c => by first | exact absurd c (by omega) | exact c.elim | exact absurd c (by decide) | exact absurd (by assumption) c | exact absurd c (by assumption) | exact absurd c (Int32.not_le.mpr (by assumption))) (fun _ => ?_)
  refine ST.lift (fun _ _ k => T_iload_n d_PG_isOnWire_12 rfl k) ?_
  refine ST.lift (fun _ _ k => T_iconst (v := nI 3) d_PG_isOnWire_13 (by decide) k) ?_
  refine S_icmp_gt d_PG_isOnWire_14 rfl (fun _ => ?_) (fun c => by first | exact absurd c (by omega) | exact c.elim | exact absurd c (by decide) | exact absurd (by assumption) c | exact absurd c (by assumption) | exact absurd c (Int32.not_le.mpr (by assumption)))
  refine ST.lift (fun _ _ k => T_iconst (v := nI 0) d_PG_isOnWire_41 (by decide) k) ?_
  refine S_topi (y := nI 0) (congrArg nI (by omega)) ?_
  exact S_ret d_PG_isOnWire_42 rfl (nar_z (by omega)) (by decide) (by decide) (hQ _ hv hm)
set_option maxRecDepth 100000 in
set_option maxHeartbeats 4000000 in
theorem c_PG_tamper_3_mgt (G : GX) (v : Nat → Int32) (y : Int32) (z : Int32) (mask : Int32) (h0_m : ¬ y < nI 1) (hy_m : nI 3 < y) (hv : okv v) : CS G mi_PG_tamper [.ref 61, .int (nI 3), .int y, .int z, .int mask] v (fun r v' => r = some (.int (nI 0)) ∧ okv v' ∧ mdf [] v v') := by
  refine CS.of (by decide) (Nat.le_of_ble_eq_true rfl) ?_
  generalize hQe : (fun (r : Option Value) (v' : Nat → Int32) => r = some (.int (nI 0)) ∧ okv v' ∧ mdf [] v v') = Q
  have hQ : ∀ u, okv u → mdf [] v u → Q (some (.int (nI 0))) u := by rw [← hQe]; exact fun u h1 h2  => ⟨rfl, h1, h2⟩
  clear hQe
  have hm : mdf [] v v := mdf.rf
  show ST G mi_PG_tamper 0 [(0, .ref 61), (1, .int (nI 3)), (2, .int y), (3, .int z), (4, .int mask)] [] v 0 0 Q
  refine ST.lift (fun _ _ k => T_aload_n (v := .ref 61) d_PG_tamper_0 rfl (Or.inr ⟨_, rfl⟩) k) ?_
  refine ST.lift (fun _ _ k => T_iload_n d_PG_tamper_1 rfl k) ?_
  refine ST.lift (fun _ _ k => T_iload_n d_PG_tamper_2 rfl k) ?_
  refine ST.lift (fun _ _ k => T_iload_n d_PG_tamper_3 rfl k) ?_
  refine S_virtual (as := [.int (nI 3), .int y, .int z]) (rest := []) (b := 61) d_PG_tamper_4 rfl (jw_PG_isOnWire.jo (by decide)) lm_PG_154 ji_PG_isOnWire js_PG_isOnWire (w61 _) rfl rfl rfl (Nat.le_of_ble_eq_true rfl) (by decide) (by decide) (c_PG_isOnWire_3_mgt G v y z h0_m hy_m hv) (fun r u1 hq => ?_)
  obtain ⟨hr, hv2, hm3⟩ := hq
  rw [hr]
  clear hr r
  have hm4 := hm.go hm3 (by intro i hi; simp only [List.mem_cons, List.not_mem_nil, or_false] at hi ⊢ <;> omega)
  show ST G mi_PG_tamper 7 [(0, .ref 61), (1, .int (nI 3)), (2, .int y), (3, .int z), (4, .int mask)] [.int (nI 0)] u1 0 0 _
  refine S_if_neN d_PG_tamper_7 rfl (by omega) (fun c => by first | exact absurd c (by omega) | exact c.elim | exact absurd c (by decide) | exact absurd (by assumption) c | exact absurd c (by assumption) | exact absurd c (Int32.not_le.mpr (by assumption))) (fun _ => ?_)
  refine ST.lift (fun _ _ k => T_iconst (v := nI 0) d_PG_tamper_10 (by decide) k) ?_
  refine S_topi (y := nI 0) (congrArg nI (by omega)) ?_
  exact S_ret d_PG_tamper_11 rfl (nar_z (by omega)) (by decide) (by decide) (hQ _ hv2 hm4)
set_option maxRecDepth 100000 in
set_option maxHeartbeats 4000000 in
theorem c_PG_isOnWire_3_1_neg (G : GX) (v : Nat → Int32) (z : Int32) (hz_n : z < 0) (hv : okv v) : CS G mi_PG_isOnWire [.ref 61, .int (nI 3), .int (nI 1), .int z] v (fun r v' => r = some (.int (nI 0)) ∧ okv v' ∧ mdf [] v v') := by
  refine CS.of (by decide) (Nat.le_of_ble_eq_true rfl) ?_
  generalize hQe : (fun (r : Option Value) (v' : Nat → Int32) => r = some (.int (nI 0)) ∧ okv v' ∧ mdf [] v v') = Q
  have hQ : ∀ u, okv u → mdf [] v u → Q (some (.int (nI 0))) u := by rw [← hQe]; exact fun u h1 h2  => ⟨rfl, h1, h2⟩
  clear hQe
  have hm : mdf [] v v := mdf.rf
  show ST G mi_PG_isOnWire 0 [(0, .ref 61), (1, .int (nI 3)), (2, .int (nI 1)), (3, .int z)] [] v 0 0 Q
  refine ST.lift (fun _ _ k => T_iload_n d_PG_isOnWire_0 rfl k) ?_
  refine S_static (as := [.int (nI 3)]) (rest := []) d_PG_isOnWire_1 rfl (jw_PG_isSession.jo (by decide)) lm_PG_133 jt_PG_isSession rfl (Nat.le_of_ble_eq_true rfl) (by decide) (by decide) (c_PG_isSession G v 3 (by omega)) (fun r v' hq => ?_)
  rw [hq.1, hq.2]
  clear hq r v'
  show ST G mi_PG_isOnWire 4 [(0, .ref 61), (1, .int (nI 3)), (2, .int (nI 1)), (3, .int z)] [.int (nI 1)] v 0 0 _
  refine S_if_eqN d_PG_isOnWire_4 rfl (by omega) (fun c => by first | exact absurd c (by omega) | exact c.elim | exact absurd c (by decide) | exact absurd (by assumption) c | exact absurd c (by assumption) | exact absurd c (Int32.not_le.mpr (by assumption))) (fun _ => ?_)
  refine ST.lift (fun _ _ k => T_iload_n d_PG_isOnWire_7 rfl k) ?_
  refine ST.lift (fun _ _ k => T_iconst (v := nI 1) d_PG_isOnWire_8 (by decide) k) ?_
  refine S_icmp_ltN d_PG_isOnWire_9 rfl (by omega) (by omega) (fun c => by first | exact absurd c (by omega) | exact c.elim | exact absurd c (by decide) | exact absurd (by assumption) c | exact absurd c (by assumption) | exact absurd c (Int32.not_le.mpr (by assumption))) (fun _ => ?_)
  refine ST.lift (fun _ _ k => T_iload_n d_PG_isOnWire_12 rfl k) ?_
  refine ST.lift (fun _ _ k => T_iconst (v := nI 3) d_PG_isOnWire_13 (by decide) k) ?_
  refine S_icmp_gtN d_PG_isOnWire_14 rfl (by omega) (by omega) (fun c => by first | exact absurd c (by omega) | exact c.elim | exact absurd c (by decide) | exact absurd (by assumption) c | exact absurd c (by assumption) | exact absurd c (Int32.not_le.mpr (by assumption))) (fun _ => ?_)
  refine ST.lift (fun _ _ k => T_aload_n (v := .ref 61) d_PG_isOnWire_17 rfl (Or.inr ⟨_, rfl⟩) k) ?_
  refine S_getfield d_PG_isOnWire_18 fg_PG_34 (w61 _) rfl ?_
  refine ST.lift (fun _ _ k => T_iload_n d_PG_isOnWire_21 rfl k) ?_
  refine S_aaload (C0 := "PasswordGate$Session") d_PG_isOnWire_22 (by decide) (w264 _) rfl (vp_in_nI (by omega) (by omega)) ?_
  refine S_getfield d_PG_isOnWire_23 fg_PG_158 (w343 _) rfl ?_
  refine ST.lift (fun _ _ k => T_iload_n d_PG_isOnWire_26 rfl k) ?_
  refine ST.lift (fun _ _ k => T_iconst (v := nI 1) d_PG_isOnWire_27 (by decide) k) ?_
  refine S_isubN d_PG_isOnWire_28 (by omega) ?_
  refine S_topi (y := nI 0) (by decide) ?_
  refine S_aaload (C0 := "PasswordGate$Bytes") d_PG_isOnWire_29 (by decide) (w344 _) rfl (vp_in_nI (by omega) (by omega)) ?_
  refine ST.lift (fun _ _ k => T_iload_n d_PG_isOnWire_30 rfl k) ?_
  refine S_virtual (as := [.int z]) (rest := []) (b := 357) d_PG_isOnWire_31 rfl (jw_By_has.jo (by decide)) lm_PG_119 ji_By_has js_By_has (w357 _) rfl rfl rfl (Nat.le_of_ble_eq_true rfl) (by decide) (by decide) (c_By_has_neg G v 357 358 96 58 ⟨w357, a358, by decide, u357_1, by decide, by decide⟩ z hz_n hv) (fun r u1 hq => ?_)
  obtain ⟨hr, hv2, hm3⟩ := hq
  rw [hr]
  clear hr r
  have hm4 := hm.go hm3 (by intro i hi; simp only [List.mem_cons, List.not_mem_nil, or_false] at hi ⊢ <;> omega)
  show ST G mi_PG_isOnWire 34 [(0, .ref 61), (1, .int (nI 3)), (2, .int (nI 1)), (3, .int z)] [.int (nI 0)] u1 0 0 _
  refine S_if_eqN d_PG_isOnWire_34 rfl (by omega) (fun _ => ?_) (fun c => by first | exact absurd c (by omega) | exact c.elim | exact absurd c (by decide) | exact absurd (by assumption) c | exact absurd c (by assumption) | exact absurd c (Int32.not_le.mpr (by assumption)))
  refine ST.lift (fun _ _ k => T_iconst (v := nI 0) d_PG_isOnWire_41 (by decide) k) ?_
  refine S_topi (y := nI 0) (congrArg nI (by omega)) ?_
  exact S_ret d_PG_isOnWire_42 rfl (nar_z (by omega)) (by decide) (by decide) (hQ _ hv2 hm4)
set_option maxRecDepth 100000 in
set_option maxHeartbeats 4000000 in
theorem c_PG_tamper_3_1_neg (G : GX) (v : Nat → Int32) (z : Int32) (mask : Int32) (hz_n : z < 0) (hv : okv v) : CS G mi_PG_tamper [.ref 61, .int (nI 3), .int (nI 1), .int z, .int mask] v (fun r v' => r = some (.int (nI 0)) ∧ okv v' ∧ mdf [] v v') := by
  refine CS.of (by decide) (Nat.le_of_ble_eq_true rfl) ?_
  generalize hQe : (fun (r : Option Value) (v' : Nat → Int32) => r = some (.int (nI 0)) ∧ okv v' ∧ mdf [] v v') = Q
  have hQ : ∀ u, okv u → mdf [] v u → Q (some (.int (nI 0))) u := by rw [← hQe]; exact fun u h1 h2  => ⟨rfl, h1, h2⟩
  clear hQe
  have hm : mdf [] v v := mdf.rf
  show ST G mi_PG_tamper 0 [(0, .ref 61), (1, .int (nI 3)), (2, .int (nI 1)), (3, .int z), (4, .int mask)] [] v 0 0 Q
  refine ST.lift (fun _ _ k => T_aload_n (v := .ref 61) d_PG_tamper_0 rfl (Or.inr ⟨_, rfl⟩) k) ?_
  refine ST.lift (fun _ _ k => T_iload_n d_PG_tamper_1 rfl k) ?_
  refine ST.lift (fun _ _ k => T_iload_n d_PG_tamper_2 rfl k) ?_
  refine ST.lift (fun _ _ k => T_iload_n d_PG_tamper_3 rfl k) ?_
  refine S_virtual (as := [.int (nI 3), .int (nI 1), .int z]) (rest := []) (b := 61) d_PG_tamper_4 rfl (jw_PG_isOnWire.jo (by decide)) lm_PG_154 ji_PG_isOnWire js_PG_isOnWire (w61 _) rfl rfl rfl (Nat.le_of_ble_eq_true rfl) (by decide) (by decide) (c_PG_isOnWire_3_1_neg G v z hz_n hv) (fun r u1 hq => ?_)
  obtain ⟨hr, hv2, hm3⟩ := hq
  rw [hr]
  clear hr r
  have hm4 := hm.go hm3 (by intro i hi; simp only [List.mem_cons, List.not_mem_nil, or_false] at hi ⊢ <;> omega)
  show ST G mi_PG_tamper 7 [(0, .ref 61), (1, .int (nI 3)), (2, .int (nI 1)), (3, .int z), (4, .int mask)] [.int (nI 0)] u1 0 0 _
  refine S_if_neN d_PG_tamper_7 rfl (by omega) (fun c => by first | exact absurd c (by omega) | exact c.elim | exact absurd c (by decide) | exact absurd (by assumption) c | exact absurd c (by assumption) | exact absurd c (Int32.not_le.mpr (by assumption))) (fun _ => ?_)
  refine ST.lift (fun _ _ k => T_iconst (v := nI 0) d_PG_tamper_10 (by decide) k) ?_
  refine S_topi (y := nI 0) (congrArg nI (by omega)) ?_
  exact S_ret d_PG_tamper_11 rfl (nar_z (by omega)) (by decide) (by decide) (hQ _ hv2 hm4)
set_option maxRecDepth 100000 in
set_option maxHeartbeats 4000000 in
theorem c_PG_isOnWire_3_1_out (G : GX) (v : Nat → Int32) (i : Nat) (b_i : i < 2147483648) (k : Nat) (e58 : v 58 = nI k) (hk : k ≤ i ∧ k ≤ 96) (hv : okv v) : CS G mi_PG_isOnWire [.ref 61, .int (nI 3), .int (nI 1), .int (nI i)] v (fun r v' => r = some (.int (nI 0)) ∧ okv v' ∧ mdf [] v v' ∧ v' 58 = nI k) := by
  refine CS.of (by decide) (Nat.le_of_ble_eq_true rfl) ?_
  generalize hQe : (fun (r : Option Value) (v' : Nat → Int32) => r = some (.int (nI 0)) ∧ okv v' ∧ mdf [] v v' ∧ v' 58 = nI k) = Q
  have hQ : ∀ u, okv u → mdf [] v u → u 58 = nI k → Q (some (.int (nI 0))) u := by rw [← hQe]; exact fun u h1 h2 f0 => ⟨rfl, h1, h2, f0⟩
  clear hQe
  have hm : mdf [] v v := mdf.rf
  show ST G mi_PG_isOnWire 0 [(0, .ref 61), (1, .int (nI 3)), (2, .int (nI 1)), (3, .int (nI i))] [] v 0 0 Q
  refine ST.lift (fun _ _ k => T_iload_n d_PG_isOnWire_0 rfl k) ?_
  refine S_static (as := [.int (nI 3)]) (rest := []) d_PG_isOnWire_1 rfl (jw_PG_isSession.jo (by decide)) lm_PG_133 jt_PG_isSession rfl (Nat.le_of_ble_eq_true rfl) (by decide) (by decide) (c_PG_isSession G v 3 (by omega)) (fun r v' hq => ?_)
  rw [hq.1, hq.2]
  clear hq r v'
  show ST G mi_PG_isOnWire 4 [(0, .ref 61), (1, .int (nI 3)), (2, .int (nI 1)), (3, .int (nI i))] [.int (nI 1)] v 0 0 _
  refine S_if_eqN d_PG_isOnWire_4 rfl (by omega) (fun c => by first | exact absurd c (by omega) | exact c.elim | exact absurd c (by decide) | exact absurd (by assumption) c | exact absurd c (by assumption) | exact absurd c (Int32.not_le.mpr (by assumption))) (fun _ => ?_)
  refine ST.lift (fun _ _ k => T_iload_n d_PG_isOnWire_7 rfl k) ?_
  refine ST.lift (fun _ _ k => T_iconst (v := nI 1) d_PG_isOnWire_8 (by decide) k) ?_
  refine S_icmp_ltN d_PG_isOnWire_9 rfl (by omega) (by omega) (fun c => by first | exact absurd c (by omega) | exact c.elim | exact absurd c (by decide) | exact absurd (by assumption) c | exact absurd c (by assumption) | exact absurd c (Int32.not_le.mpr (by assumption))) (fun _ => ?_)
  refine ST.lift (fun _ _ k => T_iload_n d_PG_isOnWire_12 rfl k) ?_
  refine ST.lift (fun _ _ k => T_iconst (v := nI 3) d_PG_isOnWire_13 (by decide) k) ?_
  refine S_icmp_gtN d_PG_isOnWire_14 rfl (by omega) (by omega) (fun c => by first | exact absurd c (by omega) | exact c.elim | exact absurd c (by decide) | exact absurd (by assumption) c | exact absurd c (by assumption) | exact absurd c (Int32.not_le.mpr (by assumption))) (fun _ => ?_)
  refine ST.lift (fun _ _ k => T_aload_n (v := .ref 61) d_PG_isOnWire_17 rfl (Or.inr ⟨_, rfl⟩) k) ?_
  refine S_getfield d_PG_isOnWire_18 fg_PG_34 (w61 _) rfl ?_
  refine ST.lift (fun _ _ k => T_iload_n d_PG_isOnWire_21 rfl k) ?_
  refine S_aaload (C0 := "PasswordGate$Session") d_PG_isOnWire_22 (by decide) (w264 _) rfl (vp_in_nI (by omega) (by omega)) ?_
  refine S_getfield d_PG_isOnWire_23 fg_PG_158 (w343 _) rfl ?_
  refine ST.lift (fun _ _ k => T_iload_n d_PG_isOnWire_26 rfl k) ?_
  refine ST.lift (fun _ _ k => T_iconst (v := nI 1) d_PG_isOnWire_27 (by decide) k) ?_
  refine S_isubN d_PG_isOnWire_28 (by omega) ?_
  refine S_topi (y := nI 0) (by decide) ?_
  refine S_aaload (C0 := "PasswordGate$Bytes") d_PG_isOnWire_29 (by decide) (w344 _) rfl (vp_in_nI (by omega) (by omega)) ?_
  refine ST.lift (fun _ _ k => T_iload_n d_PG_isOnWire_30 rfl k) ?_
  refine S_virtual (as := [.int (nI i)]) (rest := []) (b := 357) d_PG_isOnWire_31 rfl (jw_By_has.jo (by decide)) lm_PG_119 ji_By_has js_By_has (w357 _) rfl rfl rfl (Nat.le_of_ble_eq_true rfl) (by decide) (by decide) (c_By_has_out G v 357 358 96 58 ⟨w357, a358, by decide, u357_1, by decide, by decide⟩ i (by omega) k e58 (by omega) hv) (fun r u1 hq => ?_)
  obtain ⟨hr, hv2, hm3, fe0_u1⟩ := hq
  rw [hr]
  clear hr r
  have hm4 := hm.go hm3 (by intro i hi; simp only [List.mem_cons, List.not_mem_nil, or_false] at hi ⊢ <;> omega)
  have e5 : u1 58 = nI k := (hm3 58 (by decide)).trans e58
  show ST G mi_PG_isOnWire 34 [(0, .ref 61), (1, .int (nI 3)), (2, .int (nI 1)), (3, .int (nI i))] [.int (nI 0)] u1 0 0 _
  refine S_if_eqN d_PG_isOnWire_34 rfl (by omega) (fun _ => ?_) (fun c => by first | exact absurd c (by omega) | exact c.elim | exact absurd c (by decide) | exact absurd (by assumption) c | exact absurd c (by assumption) | exact absurd c (Int32.not_le.mpr (by assumption)))
  refine ST.lift (fun _ _ k => T_iconst (v := nI 0) d_PG_isOnWire_41 (by decide) k) ?_
  refine S_topi (y := nI 0) (congrArg nI (by omega)) ?_
  exact S_ret d_PG_isOnWire_42 rfl (nar_z (by omega)) (by decide) (by decide) (hQ _ hv2 hm4 (fe0_u1.trans (congrArg nI (by omega))))
set_option maxRecDepth 100000 in
set_option maxHeartbeats 4000000 in
theorem c_PG_tamper_3_1_out (G : GX) (v : Nat → Int32) (i : Nat) (b_i : i < 2147483648) (mask : Int32) (k : Nat) (e58 : v 58 = nI k) (hk : k ≤ i ∧ k ≤ 96) (hv : okv v) : CS G mi_PG_tamper [.ref 61, .int (nI 3), .int (nI 1), .int (nI i), .int mask] v (fun r v' => r = some (.int (nI 0)) ∧ okv v' ∧ mdf [] v v' ∧ v' 58 = nI k) := by
  refine CS.of (by decide) (Nat.le_of_ble_eq_true rfl) ?_
  generalize hQe : (fun (r : Option Value) (v' : Nat → Int32) => r = some (.int (nI 0)) ∧ okv v' ∧ mdf [] v v' ∧ v' 58 = nI k) = Q
  have hQ : ∀ u, okv u → mdf [] v u → u 58 = nI k → Q (some (.int (nI 0))) u := by rw [← hQe]; exact fun u h1 h2 f0 => ⟨rfl, h1, h2, f0⟩
  clear hQe
  have hm : mdf [] v v := mdf.rf
  show ST G mi_PG_tamper 0 [(0, .ref 61), (1, .int (nI 3)), (2, .int (nI 1)), (3, .int (nI i)), (4, .int mask)] [] v 0 0 Q
  refine ST.lift (fun _ _ k => T_aload_n (v := .ref 61) d_PG_tamper_0 rfl (Or.inr ⟨_, rfl⟩) k) ?_
  refine ST.lift (fun _ _ k => T_iload_n d_PG_tamper_1 rfl k) ?_
  refine ST.lift (fun _ _ k => T_iload_n d_PG_tamper_2 rfl k) ?_
  refine ST.lift (fun _ _ k => T_iload_n d_PG_tamper_3 rfl k) ?_
  refine S_virtual (as := [.int (nI 3), .int (nI 1), .int (nI i)]) (rest := []) (b := 61) d_PG_tamper_4 rfl (jw_PG_isOnWire.jo (by decide)) lm_PG_154 ji_PG_isOnWire js_PG_isOnWire (w61 _) rfl rfl rfl (Nat.le_of_ble_eq_true rfl) (by decide) (by decide) (c_PG_isOnWire_3_1_out G v i (by omega) k e58 (by omega) hv) (fun r u1 hq => ?_)
  obtain ⟨hr, hv2, hm3, fe0_u1⟩ := hq
  rw [hr]
  clear hr r
  have hm4 := hm.go hm3 (by intro i hi; simp only [List.mem_cons, List.not_mem_nil, or_false] at hi ⊢ <;> omega)
  have e5 : u1 58 = nI k := (hm3 58 (by decide)).trans e58
  show ST G mi_PG_tamper 7 [(0, .ref 61), (1, .int (nI 3)), (2, .int (nI 1)), (3, .int (nI i)), (4, .int mask)] [.int (nI 0)] u1 0 0 _
  refine S_if_neN d_PG_tamper_7 rfl (by omega) (fun c => by first | exact absurd c (by omega) | exact c.elim | exact absurd c (by decide) | exact absurd (by assumption) c | exact absurd c (by assumption) | exact absurd c (Int32.not_le.mpr (by assumption))) (fun _ => ?_)
  refine ST.lift (fun _ _ k => T_iconst (v := nI 0) d_PG_tamper_10 (by decide) k) ?_
  refine S_topi (y := nI 0) (congrArg nI (by omega)) ?_
  exact S_ret d_PG_tamper_11 rfl (nar_z (by omega)) (by decide) (by decide) (hQ _ hv2 hm4 (fe0_u1.trans (congrArg nI (by omega))))
set_option maxRecDepth 100000 in
set_option maxHeartbeats 4000000 in
theorem c_PG_isOnWire_3_1_in (G : GX) (v : Nat → Int32) (i : Nat) (b_i : i < 2147483648) (k : Nat) (e58 : v 58 = nI k) (hk : i < k ∧ k ≤ 96) (hv : okv v) : CS G mi_PG_isOnWire [.ref 61, .int (nI 3), .int (nI 1), .int (nI i)] v (fun r v' => r = some (.int (nI 1)) ∧ okv v' ∧ mdf [] v v' ∧ v' 58 = nI k) := by
  refine CS.of (by decide) (Nat.le_of_ble_eq_true rfl) ?_
  generalize hQe : (fun (r : Option Value) (v' : Nat → Int32) => r = some (.int (nI 1)) ∧ okv v' ∧ mdf [] v v' ∧ v' 58 = nI k) = Q
  have hQ : ∀ u, okv u → mdf [] v u → u 58 = nI k → Q (some (.int (nI 1))) u := by rw [← hQe]; exact fun u h1 h2 f0 => ⟨rfl, h1, h2, f0⟩
  clear hQe
  have hm : mdf [] v v := mdf.rf
  show ST G mi_PG_isOnWire 0 [(0, .ref 61), (1, .int (nI 3)), (2, .int (nI 1)), (3, .int (nI i))] [] v 0 0 Q
  refine ST.lift (fun _ _ k => T_iload_n d_PG_isOnWire_0 rfl k) ?_
  refine S_static (as := [.int (nI 3)]) (rest := []) d_PG_isOnWire_1 rfl (jw_PG_isSession.jo (by decide)) lm_PG_133 jt_PG_isSession rfl (Nat.le_of_ble_eq_true rfl) (by decide) (by decide) (c_PG_isSession G v 3 (by omega)) (fun r v' hq => ?_)
  rw [hq.1, hq.2]
  clear hq r v'
  show ST G mi_PG_isOnWire 4 [(0, .ref 61), (1, .int (nI 3)), (2, .int (nI 1)), (3, .int (nI i))] [.int (nI 1)] v 0 0 _
  refine S_if_eqN d_PG_isOnWire_4 rfl (by omega) (fun c => by first | exact absurd c (by omega) | exact c.elim | exact absurd c (by decide) | exact absurd (by assumption) c | exact absurd c (by assumption) | exact absurd c (Int32.not_le.mpr (by assumption))) (fun _ => ?_)
  refine ST.lift (fun _ _ k => T_iload_n d_PG_isOnWire_7 rfl k) ?_
  refine ST.lift (fun _ _ k => T_iconst (v := nI 1) d_PG_isOnWire_8 (by decide) k) ?_
  refine S_icmp_ltN d_PG_isOnWire_9 rfl (by omega) (by omega) (fun c => by first | exact absurd c (by omega) | exact c.elim | exact absurd c (by decide) | exact absurd (by assumption) c | exact absurd c (by assumption) | exact absurd c (Int32.not_le.mpr (by assumption))) (fun _ => ?_)
  refine ST.lift (fun _ _ k => T_iload_n d_PG_isOnWire_12 rfl k) ?_
  refine ST.lift (fun _ _ k => T_iconst (v := nI 3) d_PG_isOnWire_13 (by decide) k) ?_
  refine S_icmp_gtN d_PG_isOnWire_14 rfl (by omega) (by omega) (fun c => by first | exact absurd c (by omega) | exact c.elim | exact absurd c (by decide) | exact absurd (by assumption) c | exact absurd c (by assumption) | exact absurd c (Int32.not_le.mpr (by assumption))) (fun _ => ?_)
  refine ST.lift (fun _ _ k => T_aload_n (v := .ref 61) d_PG_isOnWire_17 rfl (Or.inr ⟨_, rfl⟩) k) ?_
  refine S_getfield d_PG_isOnWire_18 fg_PG_34 (w61 _) rfl ?_
  refine ST.lift (fun _ _ k => T_iload_n d_PG_isOnWire_21 rfl k) ?_
  refine S_aaload (C0 := "PasswordGate$Session") d_PG_isOnWire_22 (by decide) (w264 _) rfl (vp_in_nI (by omega) (by omega)) ?_
  refine S_getfield d_PG_isOnWire_23 fg_PG_158 (w343 _) rfl ?_
  refine ST.lift (fun _ _ k => T_iload_n d_PG_isOnWire_26 rfl k) ?_
  refine ST.lift (fun _ _ k => T_iconst (v := nI 1) d_PG_isOnWire_27 (by decide) k) ?_
  refine S_isubN d_PG_isOnWire_28 (by omega) ?_
  refine S_topi (y := nI 0) (by decide) ?_
  refine S_aaload (C0 := "PasswordGate$Bytes") d_PG_isOnWire_29 (by decide) (w344 _) rfl (vp_in_nI (by omega) (by omega)) ?_
  refine ST.lift (fun _ _ k => T_iload_n d_PG_isOnWire_30 rfl k) ?_
  refine S_virtual (as := [.int (nI i)]) (rest := []) (b := 357) d_PG_isOnWire_31 rfl (jw_By_has.jo (by decide)) lm_PG_119 ji_By_has js_By_has (w357 _) rfl rfl rfl (Nat.le_of_ble_eq_true rfl) (by decide) (by decide) (c_By_has_in G v 357 358 96 58 ⟨w357, a358, by decide, u357_1, by decide, by decide⟩ i (by omega) k e58 (by omega) hv) (fun r u1 hq => ?_)
  obtain ⟨hr, hv2, hm3, fe0_u1⟩ := hq
  rw [hr]
  clear hr r
  have hm4 := hm.go hm3 (by intro i hi; simp only [List.mem_cons, List.not_mem_nil, or_false] at hi ⊢ <;> omega)
  have e5 : u1 58 = nI k := (hm3 58 (by decide)).trans e58
  show ST G mi_PG_isOnWire 34 [(0, .ref 61), (1, .int (nI 3)), (2, .int (nI 1)), (3, .int (nI i))] [.int (nI 1)] u1 0 0 _
  refine S_if_eqN d_PG_isOnWire_34 rfl (by omega) (fun c => by first | exact absurd c (by omega) | exact c.elim | exact absurd c (by decide) | exact absurd (by assumption) c | exact absurd c (by assumption) | exact absurd c (Int32.not_le.mpr (by assumption))) (fun _ => ?_)
  refine ST.lift (fun _ _ k => T_iconst (v := nI 1) d_PG_isOnWire_37 (by decide) k) ?_
  refine ST.lift (fun _ _ k => T_goto (tgt := 42) d_PG_isOnWire_38 rfl k) ?_
  refine S_topi (y := nI 1) (congrArg nI (by omega)) ?_
  exact S_ret d_PG_isOnWire_42 rfl (nar_z (by omega)) (by decide) (by decide) (hQ _ hv2 hm4 (fe0_u1.trans (congrArg nI (by omega))))
set_option maxRecDepth 100000 in
set_option maxHeartbeats 4000000 in
theorem c_PG_wire_3_1_in (G : GX) (v : Nat → Int32) (i : Nat) (b_i : i < 2147483648) (k : Nat) (e58 : v 58 = nI k) (hk : i < k ∧ k ≤ 96) (hv : okv v) : CS G mi_PG_wire [.ref 61, .int (nI 3), .int (nI 1), .int (nI i)] v (fun r v' => ∃ z : Int32, r = some (.int z) ∧ okv v' ∧ mdf [] v v' ∧ v' 58 = nI k) := by
  refine CS.of (by decide) (Nat.le_of_ble_eq_true rfl) ?_
  generalize hQe : (fun (r : Option Value) (v' : Nat → Int32) => ∃ z : Int32, r = some (.int z) ∧ okv v' ∧ mdf [] v v' ∧ v' 58 = nI k) = Q
  have hQ : ∀ (z : Int32) (u : Nat → Int32), okv u → mdf [] v u → u 58 = nI k → Q (some (.int z)) u := by rw [← hQe]; exact fun z u h1 h2 f0 => ⟨z, rfl, h1, h2, f0⟩
  clear hQe
  have hm : mdf [] v v := mdf.rf
  show ST G mi_PG_wire 0 [(0, .ref 61), (1, .int (nI 3)), (2, .int (nI 1)), (3, .int (nI i))] [] v 0 0 Q
  refine ST.lift (fun _ _ k => T_aload_n (v := .ref 61) d_PG_wire_0 rfl (Or.inr ⟨_, rfl⟩) k) ?_
  refine ST.lift (fun _ _ k => T_iload_n d_PG_wire_1 rfl k) ?_
  refine ST.lift (fun _ _ k => T_iload_n d_PG_wire_2 rfl k) ?_
  refine ST.lift (fun _ _ k => T_iload_n d_PG_wire_3 rfl k) ?_
  refine S_virtual (as := [.int (nI 3), .int (nI 1), .int (nI i)]) (rest := []) (b := 61) d_PG_wire_4 rfl (jw_PG_isOnWire.jo (by decide)) lm_PG_154 ji_PG_isOnWire js_PG_isOnWire (w61 _) rfl rfl rfl (Nat.le_of_ble_eq_true rfl) (by decide) (by decide) (c_PG_isOnWire_3_1_in G v i (by omega) k e58 (by omega) hv) (fun r u1 hq => ?_)
  obtain ⟨hr, hv2, hm3, fe0_u1⟩ := hq
  rw [hr]
  clear hr r
  have hm4 := hm.go hm3 (by intro i hi; simp only [List.mem_cons, List.not_mem_nil, or_false] at hi ⊢ <;> omega)
  have e5 : u1 58 = nI k := (hm3 58 (by decide)).trans e58
  show ST G mi_PG_wire 7 [(0, .ref 61), (1, .int (nI 3)), (2, .int (nI 1)), (3, .int (nI i))] [.int (nI 1)] u1 0 0 _
  refine S_if_neN d_PG_wire_7 rfl (by omega) (fun _ => ?_) (fun c => by first | exact absurd c (by omega) | exact c.elim | exact absurd c (by decide) | exact absurd (by assumption) c | exact absurd c (by assumption) | exact absurd c (Int32.not_le.mpr (by assumption)))
  refine ST.lift (fun _ _ k => T_aload_n (v := .ref 61) d_PG_wire_18 rfl (Or.inr ⟨_, rfl⟩) k) ?_
  refine S_getfield d_PG_wire_19 fg_PG_34 (w61 _) rfl ?_
  refine ST.lift (fun _ _ k => T_iload_n d_PG_wire_22 rfl k) ?_
  refine S_aaload (C0 := "PasswordGate$Session") d_PG_wire_23 (by decide) (w264 _) rfl (vp_in_nI (by omega) (by omega)) ?_
  refine S_getfield d_PG_wire_24 fg_PG_158 (w343 _) rfl ?_
  refine ST.lift (fun _ _ k => T_iload_n d_PG_wire_27 rfl k) ?_
  refine ST.lift (fun _ _ k => T_iconst (v := nI 1) d_PG_wire_28 (by decide) k) ?_
  refine S_isubN d_PG_wire_29 (by omega) ?_
  refine S_topi (y := nI 0) (by decide) ?_
  refine S_aaload (C0 := "PasswordGate$Bytes") d_PG_wire_30 (by decide) (w344 _) rfl (vp_in_nI (by omega) (by omega)) ?_
  refine S_getfield d_PG_wire_31 fg_PG_93 (w357 _) rfl ?_
  refine ST.lift (fun _ _ k => T_iload_n d_PG_wire_34 rfl k) ?_
  refine S_baload d_PG_wire_35 a358 (vp_in_nI (by omega) (by omega)) (fun z6 hz6 => ?_)
  refine ST.lift (fun _ _ k => T_sipush (v := nI 255) d_PG_wire_36 (by decide) k) ?_
  refine S_iandM 8 d_PG_wire_39 (by decide) (by decide) (fun j7 hj7 => ?_)
  simp only [Nat.reducePow] at hj7
  exact S_ret d_PG_wire_40 rfl rfl (by decide) (by decide) (hQ _ _ hv2 hm4 (fe0_u1.trans (congrArg nI (by omega))))
set_option maxRecDepth 100000 in
set_option maxHeartbeats 4000000 in
theorem c_PG_isOnWire_3_2_neg (G : GX) (v : Nat → Int32) (z : Int32) (hz_n : z < 0) (hv : okv v) : CS G mi_PG_isOnWire [.ref 61, .int (nI 3), .int (nI 2), .int z] v (fun r v' => r = some (.int (nI 0)) ∧ okv v' ∧ mdf [] v v') := by
  refine CS.of (by decide) (Nat.le_of_ble_eq_true rfl) ?_
  generalize hQe : (fun (r : Option Value) (v' : Nat → Int32) => r = some (.int (nI 0)) ∧ okv v' ∧ mdf [] v v') = Q
  have hQ : ∀ u, okv u → mdf [] v u → Q (some (.int (nI 0))) u := by rw [← hQe]; exact fun u h1 h2  => ⟨rfl, h1, h2⟩
  clear hQe
  have hm : mdf [] v v := mdf.rf
  show ST G mi_PG_isOnWire 0 [(0, .ref 61), (1, .int (nI 3)), (2, .int (nI 2)), (3, .int z)] [] v 0 0 Q
  refine ST.lift (fun _ _ k => T_iload_n d_PG_isOnWire_0 rfl k) ?_
  refine S_static (as := [.int (nI 3)]) (rest := []) d_PG_isOnWire_1 rfl (jw_PG_isSession.jo (by decide)) lm_PG_133 jt_PG_isSession rfl (Nat.le_of_ble_eq_true rfl) (by decide) (by decide) (c_PG_isSession G v 3 (by omega)) (fun r v' hq => ?_)
  rw [hq.1, hq.2]
  clear hq r v'
  show ST G mi_PG_isOnWire 4 [(0, .ref 61), (1, .int (nI 3)), (2, .int (nI 2)), (3, .int z)] [.int (nI 1)] v 0 0 _
  refine S_if_eqN d_PG_isOnWire_4 rfl (by omega) (fun c => by first | exact absurd c (by omega) | exact c.elim | exact absurd c (by decide) | exact absurd (by assumption) c | exact absurd c (by assumption) | exact absurd c (Int32.not_le.mpr (by assumption))) (fun _ => ?_)
  refine ST.lift (fun _ _ k => T_iload_n d_PG_isOnWire_7 rfl k) ?_
  refine ST.lift (fun _ _ k => T_iconst (v := nI 1) d_PG_isOnWire_8 (by decide) k) ?_
  refine S_icmp_ltN d_PG_isOnWire_9 rfl (by omega) (by omega) (fun c => by first | exact absurd c (by omega) | exact c.elim | exact absurd c (by decide) | exact absurd (by assumption) c | exact absurd c (by assumption) | exact absurd c (Int32.not_le.mpr (by assumption))) (fun _ => ?_)
  refine ST.lift (fun _ _ k => T_iload_n d_PG_isOnWire_12 rfl k) ?_
  refine ST.lift (fun _ _ k => T_iconst (v := nI 3) d_PG_isOnWire_13 (by decide) k) ?_
  refine S_icmp_gtN d_PG_isOnWire_14 rfl (by omega) (by omega) (fun c => by first | exact absurd c (by omega) | exact c.elim | exact absurd c (by decide) | exact absurd (by assumption) c | exact absurd c (by assumption) | exact absurd c (Int32.not_le.mpr (by assumption))) (fun _ => ?_)
  refine ST.lift (fun _ _ k => T_aload_n (v := .ref 61) d_PG_isOnWire_17 rfl (Or.inr ⟨_, rfl⟩) k) ?_
  refine S_getfield d_PG_isOnWire_18 fg_PG_34 (w61 _) rfl ?_
  refine ST.lift (fun _ _ k => T_iload_n d_PG_isOnWire_21 rfl k) ?_
  refine S_aaload (C0 := "PasswordGate$Session") d_PG_isOnWire_22 (by decide) (w264 _) rfl (vp_in_nI (by omega) (by omega)) ?_
  refine S_getfield d_PG_isOnWire_23 fg_PG_158 (w343 _) rfl ?_
  refine ST.lift (fun _ _ k => T_iload_n d_PG_isOnWire_26 rfl k) ?_
  refine ST.lift (fun _ _ k => T_iconst (v := nI 1) d_PG_isOnWire_27 (by decide) k) ?_
  refine S_isubN d_PG_isOnWire_28 (by omega) ?_
  refine S_topi (y := nI 1) (by decide) ?_
  refine S_aaload (C0 := "PasswordGate$Bytes") d_PG_isOnWire_29 (by decide) (w344 _) rfl (vp_in_nI (by omega) (by omega)) ?_
  refine ST.lift (fun _ _ k => T_iload_n d_PG_isOnWire_30 rfl k) ?_
  refine S_virtual (as := [.int z]) (rest := []) (b := 359) d_PG_isOnWire_31 rfl (jw_By_has.jo (by decide)) lm_PG_119 ji_By_has js_By_has (w359 _) rfl rfl rfl (Nat.le_of_ble_eq_true rfl) (by decide) (by decide) (c_By_has_neg G v 359 360 320 59 ⟨w359, a360, by decide, u359_1, by decide, by decide⟩ z hz_n hv) (fun r u1 hq => ?_)
  obtain ⟨hr, hv2, hm3⟩ := hq
  rw [hr]
  clear hr r
  have hm4 := hm.go hm3 (by intro i hi; simp only [List.mem_cons, List.not_mem_nil, or_false] at hi ⊢ <;> omega)
  show ST G mi_PG_isOnWire 34 [(0, .ref 61), (1, .int (nI 3)), (2, .int (nI 2)), (3, .int z)] [.int (nI 0)] u1 0 0 _
  refine S_if_eqN d_PG_isOnWire_34 rfl (by omega) (fun _ => ?_) (fun c => by first | exact absurd c (by omega) | exact c.elim | exact absurd c (by decide) | exact absurd (by assumption) c | exact absurd c (by assumption) | exact absurd c (Int32.not_le.mpr (by assumption)))
  refine ST.lift (fun _ _ k => T_iconst (v := nI 0) d_PG_isOnWire_41 (by decide) k) ?_
  refine S_topi (y := nI 0) (congrArg nI (by omega)) ?_
  exact S_ret d_PG_isOnWire_42 rfl (nar_z (by omega)) (by decide) (by decide) (hQ _ hv2 hm4)
set_option maxRecDepth 100000 in
set_option maxHeartbeats 4000000 in
theorem c_PG_tamper_3_2_neg (G : GX) (v : Nat → Int32) (z : Int32) (mask : Int32) (hz_n : z < 0) (hv : okv v) : CS G mi_PG_tamper [.ref 61, .int (nI 3), .int (nI 2), .int z, .int mask] v (fun r v' => r = some (.int (nI 0)) ∧ okv v' ∧ mdf [] v v') := by
  refine CS.of (by decide) (Nat.le_of_ble_eq_true rfl) ?_
  generalize hQe : (fun (r : Option Value) (v' : Nat → Int32) => r = some (.int (nI 0)) ∧ okv v' ∧ mdf [] v v') = Q
  have hQ : ∀ u, okv u → mdf [] v u → Q (some (.int (nI 0))) u := by rw [← hQe]; exact fun u h1 h2  => ⟨rfl, h1, h2⟩
  clear hQe
  have hm : mdf [] v v := mdf.rf
  show ST G mi_PG_tamper 0 [(0, .ref 61), (1, .int (nI 3)), (2, .int (nI 2)), (3, .int z), (4, .int mask)] [] v 0 0 Q
  refine ST.lift (fun _ _ k => T_aload_n (v := .ref 61) d_PG_tamper_0 rfl (Or.inr ⟨_, rfl⟩) k) ?_
  refine ST.lift (fun _ _ k => T_iload_n d_PG_tamper_1 rfl k) ?_
  refine ST.lift (fun _ _ k => T_iload_n d_PG_tamper_2 rfl k) ?_
  refine ST.lift (fun _ _ k => T_iload_n d_PG_tamper_3 rfl k) ?_
  refine S_virtual (as := [.int (nI 3), .int (nI 2), .int z]) (rest := []) (b := 61) d_PG_tamper_4 rfl (jw_PG_isOnWire.jo (by decide)) lm_PG_154 ji_PG_isOnWire js_PG_isOnWire (w61 _) rfl rfl rfl (Nat.le_of_ble_eq_true rfl) (by decide) (by decide) (c_PG_isOnWire_3_2_neg G v z hz_n hv) (fun r u1 hq => ?_)
  obtain ⟨hr, hv2, hm3⟩ := hq
  rw [hr]
  clear hr r
  have hm4 := hm.go hm3 (by intro i hi; simp only [List.mem_cons, List.not_mem_nil, or_false] at hi ⊢ <;> omega)
  show ST G mi_PG_tamper 7 [(0, .ref 61), (1, .int (nI 3)), (2, .int (nI 2)), (3, .int z), (4, .int mask)] [.int (nI 0)] u1 0 0 _
  refine S_if_neN d_PG_tamper_7 rfl (by omega) (fun c => by first | exact absurd c (by omega) | exact c.elim | exact absurd c (by decide) | exact absurd (by assumption) c | exact absurd c (by assumption) | exact absurd c (Int32.not_le.mpr (by assumption))) (fun _ => ?_)
  refine ST.lift (fun _ _ k => T_iconst (v := nI 0) d_PG_tamper_10 (by decide) k) ?_
  refine S_topi (y := nI 0) (congrArg nI (by omega)) ?_
  exact S_ret d_PG_tamper_11 rfl (nar_z (by omega)) (by decide) (by decide) (hQ _ hv2 hm4)
set_option maxRecDepth 100000 in
set_option maxHeartbeats 4000000 in
theorem c_PG_isOnWire_3_2_out (G : GX) (v : Nat → Int32) (i : Nat) (b_i : i < 2147483648) (k : Nat) (e59 : v 59 = nI k) (hk : k ≤ i ∧ k ≤ 320) (hv : okv v) : CS G mi_PG_isOnWire [.ref 61, .int (nI 3), .int (nI 2), .int (nI i)] v (fun r v' => r = some (.int (nI 0)) ∧ okv v' ∧ mdf [] v v' ∧ v' 59 = nI k) := by
  refine CS.of (by decide) (Nat.le_of_ble_eq_true rfl) ?_
  generalize hQe : (fun (r : Option Value) (v' : Nat → Int32) => r = some (.int (nI 0)) ∧ okv v' ∧ mdf [] v v' ∧ v' 59 = nI k) = Q
  have hQ : ∀ u, okv u → mdf [] v u → u 59 = nI k → Q (some (.int (nI 0))) u := by rw [← hQe]; exact fun u h1 h2 f0 => ⟨rfl, h1, h2, f0⟩
  clear hQe
  have hm : mdf [] v v := mdf.rf
  show ST G mi_PG_isOnWire 0 [(0, .ref 61), (1, .int (nI 3)), (2, .int (nI 2)), (3, .int (nI i))] [] v 0 0 Q
  refine ST.lift (fun _ _ k => T_iload_n d_PG_isOnWire_0 rfl k) ?_
  refine S_static (as := [.int (nI 3)]) (rest := []) d_PG_isOnWire_1 rfl (jw_PG_isSession.jo (by decide)) lm_PG_133 jt_PG_isSession rfl (Nat.le_of_ble_eq_true rfl) (by decide) (by decide) (c_PG_isSession G v 3 (by omega)) (fun r v' hq => ?_)
  rw [hq.1, hq.2]
  clear hq r v'
  show ST G mi_PG_isOnWire 4 [(0, .ref 61), (1, .int (nI 3)), (2, .int (nI 2)), (3, .int (nI i))] [.int (nI 1)] v 0 0 _
  refine S_if_eqN d_PG_isOnWire_4 rfl (by omega) (fun c => by first | exact absurd c (by omega) | exact c.elim | exact absurd c (by decide) | exact absurd (by assumption) c | exact absurd c (by assumption) | exact absurd c (Int32.not_le.mpr (by assumption))) (fun _ => ?_)
  refine ST.lift (fun _ _ k => T_iload_n d_PG_isOnWire_7 rfl k) ?_
  refine ST.lift (fun _ _ k => T_iconst (v := nI 1) d_PG_isOnWire_8 (by decide) k) ?_
  refine S_icmp_ltN d_PG_isOnWire_9 rfl (by omega) (by omega) (fun c => by first | exact absurd c (by omega) | exact c.elim | exact absurd c (by decide) | exact absurd (by assumption) c | exact absurd c (by assumption) | exact absurd c (Int32.not_le.mpr (by assumption))) (fun _ => ?_)
  refine ST.lift (fun _ _ k => T_iload_n d_PG_isOnWire_12 rfl k) ?_
  refine ST.lift (fun _ _ k => T_iconst (v := nI 3) d_PG_isOnWire_13 (by decide) k) ?_
  refine S_icmp_gtN d_PG_isOnWire_14 rfl (by omega) (by omega) (fun c => by first | exact absurd c (by omega) | exact c.elim | exact absurd c (by decide) | exact absurd (by assumption) c | exact absurd c (by assumption) | exact absurd c (Int32.not_le.mpr (by assumption))) (fun _ => ?_)
  refine ST.lift (fun _ _ k => T_aload_n (v := .ref 61) d_PG_isOnWire_17 rfl (Or.inr ⟨_, rfl⟩) k) ?_
  refine S_getfield d_PG_isOnWire_18 fg_PG_34 (w61 _) rfl ?_
  refine ST.lift (fun _ _ k => T_iload_n d_PG_isOnWire_21 rfl k) ?_
  refine S_aaload (C0 := "PasswordGate$Session") d_PG_isOnWire_22 (by decide) (w264 _) rfl (vp_in_nI (by omega) (by omega)) ?_
  refine S_getfield d_PG_isOnWire_23 fg_PG_158 (w343 _) rfl ?_
  refine ST.lift (fun _ _ k => T_iload_n d_PG_isOnWire_26 rfl k) ?_
  refine ST.lift (fun _ _ k => T_iconst (v := nI 1) d_PG_isOnWire_27 (by decide) k) ?_
  refine S_isubN d_PG_isOnWire_28 (by omega) ?_
  refine S_topi (y := nI 1) (by decide) ?_
  refine S_aaload (C0 := "PasswordGate$Bytes") d_PG_isOnWire_29 (by decide) (w344 _) rfl (vp_in_nI (by omega) (by omega)) ?_
  refine ST.lift (fun _ _ k => T_iload_n d_PG_isOnWire_30 rfl k) ?_
  refine S_virtual (as := [.int (nI i)]) (rest := []) (b := 359) d_PG_isOnWire_31 rfl (jw_By_has.jo (by decide)) lm_PG_119 ji_By_has js_By_has (w359 _) rfl rfl rfl (Nat.le_of_ble_eq_true rfl) (by decide) (by decide) (c_By_has_out G v 359 360 320 59 ⟨w359, a360, by decide, u359_1, by decide, by decide⟩ i (by omega) k e59 (by omega) hv) (fun r u1 hq => ?_)
  obtain ⟨hr, hv2, hm3, fe0_u1⟩ := hq
  rw [hr]
  clear hr r
  have hm4 := hm.go hm3 (by intro i hi; simp only [List.mem_cons, List.not_mem_nil, or_false] at hi ⊢ <;> omega)
  have e5 : u1 59 = nI k := (hm3 59 (by decide)).trans e59
  show ST G mi_PG_isOnWire 34 [(0, .ref 61), (1, .int (nI 3)), (2, .int (nI 2)), (3, .int (nI i))] [.int (nI 0)] u1 0 0 _
  refine S_if_eqN d_PG_isOnWire_34 rfl (by omega) (fun _ => ?_) (fun c => by first | exact absurd c (by omega) | exact c.elim | exact absurd c (by decide) | exact absurd (by assumption) c | exact absurd c (by assumption) | exact absurd c (Int32.not_le.mpr (by assumption)))
  refine ST.lift (fun _ _ k => T_iconst (v := nI 0) d_PG_isOnWire_41 (by decide) k) ?_
  refine S_topi (y := nI 0) (congrArg nI (by omega)) ?_
  exact S_ret d_PG_isOnWire_42 rfl (nar_z (by omega)) (by decide) (by decide) (hQ _ hv2 hm4 (fe0_u1.trans (congrArg nI (by omega))))
set_option maxRecDepth 100000 in
set_option maxHeartbeats 4000000 in
theorem c_PG_tamper_3_2_out (G : GX) (v : Nat → Int32) (i : Nat) (b_i : i < 2147483648) (mask : Int32) (k : Nat) (e59 : v 59 = nI k) (hk : k ≤ i ∧ k ≤ 320) (hv : okv v) : CS G mi_PG_tamper [.ref 61, .int (nI 3), .int (nI 2), .int (nI i), .int mask] v (fun r v' => r = some (.int (nI 0)) ∧ okv v' ∧ mdf [] v v' ∧ v' 59 = nI k) := by
  refine CS.of (by decide) (Nat.le_of_ble_eq_true rfl) ?_
  generalize hQe : (fun (r : Option Value) (v' : Nat → Int32) => r = some (.int (nI 0)) ∧ okv v' ∧ mdf [] v v' ∧ v' 59 = nI k) = Q
  have hQ : ∀ u, okv u → mdf [] v u → u 59 = nI k → Q (some (.int (nI 0))) u := by rw [← hQe]; exact fun u h1 h2 f0 => ⟨rfl, h1, h2, f0⟩
  clear hQe
  have hm : mdf [] v v := mdf.rf
  show ST G mi_PG_tamper 0 [(0, .ref 61), (1, .int (nI 3)), (2, .int (nI 2)), (3, .int (nI i)), (4, .int mask)] [] v 0 0 Q
  refine ST.lift (fun _ _ k => T_aload_n (v := .ref 61) d_PG_tamper_0 rfl (Or.inr ⟨_, rfl⟩) k) ?_
  refine ST.lift (fun _ _ k => T_iload_n d_PG_tamper_1 rfl k) ?_
  refine ST.lift (fun _ _ k => T_iload_n d_PG_tamper_2 rfl k) ?_
  refine ST.lift (fun _ _ k => T_iload_n d_PG_tamper_3 rfl k) ?_
  refine S_virtual (as := [.int (nI 3), .int (nI 2), .int (nI i)]) (rest := []) (b := 61) d_PG_tamper_4 rfl (jw_PG_isOnWire.jo (by decide)) lm_PG_154 ji_PG_isOnWire js_PG_isOnWire (w61 _) rfl rfl rfl (Nat.le_of_ble_eq_true rfl) (by decide) (by decide) (c_PG_isOnWire_3_2_out G v i (by omega) k e59 (by omega) hv) (fun r u1 hq => ?_)
  obtain ⟨hr, hv2, hm3, fe0_u1⟩ := hq
  rw [hr]
  clear hr r
  have hm4 := hm.go hm3 (by intro i hi; simp only [List.mem_cons, List.not_mem_nil, or_false] at hi ⊢ <;> omega)
  have e5 : u1 59 = nI k := (hm3 59 (by decide)).trans e59
  show ST G mi_PG_tamper 7 [(0, .ref 61), (1, .int (nI 3)), (2, .int (nI 2)), (3, .int (nI i)), (4, .int mask)] [.int (nI 0)] u1 0 0 _
  refine S_if_neN d_PG_tamper_7 rfl (by omega) (fun c => by first | exact absurd c (by omega) | exact c.elim | exact absurd c (by decide) | exact absurd (by assumption) c | exact absurd c (by assumption) | exact absurd c (Int32.not_le.mpr (by assumption))) (fun _ => ?_)
  refine ST.lift (fun _ _ k => T_iconst (v := nI 0) d_PG_tamper_10 (by decide) k) ?_
  refine S_topi (y := nI 0) (congrArg nI (by omega)) ?_
  exact S_ret d_PG_tamper_11 rfl (nar_z (by omega)) (by decide) (by decide) (hQ _ hv2 hm4 (fe0_u1.trans (congrArg nI (by omega))))
set_option maxRecDepth 100000 in
set_option maxHeartbeats 4000000 in
theorem c_PG_isOnWire_3_2_in (G : GX) (v : Nat → Int32) (i : Nat) (b_i : i < 2147483648) (k : Nat) (e59 : v 59 = nI k) (hk : i < k ∧ k ≤ 320) (hv : okv v) : CS G mi_PG_isOnWire [.ref 61, .int (nI 3), .int (nI 2), .int (nI i)] v (fun r v' => r = some (.int (nI 1)) ∧ okv v' ∧ mdf [] v v' ∧ v' 59 = nI k) := by
  refine CS.of (by decide) (Nat.le_of_ble_eq_true rfl) ?_
  generalize hQe : (fun (r : Option Value) (v' : Nat → Int32) => r = some (.int (nI 1)) ∧ okv v' ∧ mdf [] v v' ∧ v' 59 = nI k) = Q
  have hQ : ∀ u, okv u → mdf [] v u → u 59 = nI k → Q (some (.int (nI 1))) u := by rw [← hQe]; exact fun u h1 h2 f0 => ⟨rfl, h1, h2, f0⟩
  clear hQe
  have hm : mdf [] v v := mdf.rf
  show ST G mi_PG_isOnWire 0 [(0, .ref 61), (1, .int (nI 3)), (2, .int (nI 2)), (3, .int (nI i))] [] v 0 0 Q
  refine ST.lift (fun _ _ k => T_iload_n d_PG_isOnWire_0 rfl k) ?_
  refine S_static (as := [.int (nI 3)]) (rest := []) d_PG_isOnWire_1 rfl (jw_PG_isSession.jo (by decide)) lm_PG_133 jt_PG_isSession rfl (Nat.le_of_ble_eq_true rfl) (by decide) (by decide) (c_PG_isSession G v 3 (by omega)) (fun r v' hq => ?_)
  rw [hq.1, hq.2]
  clear hq r v'
  show ST G mi_PG_isOnWire 4 [(0, .ref 61), (1, .int (nI 3)), (2, .int (nI 2)), (3, .int (nI i))] [.int (nI 1)] v 0 0 _
  refine S_if_eqN d_PG_isOnWire_4 rfl (by omega) (fun c => by first | exact absurd c (by omega) | exact c.elim | exact absurd c (by decide) | exact absurd (by assumption) c | exact absurd c (by assumption) | exact absurd c (Int32.not_le.mpr (by assumption))) (fun _ => ?_)
  refine ST.lift (fun _ _ k => T_iload_n d_PG_isOnWire_7 rfl k) ?_
  refine ST.lift (fun _ _ k => T_iconst (v := nI 1) d_PG_isOnWire_8 (by decide) k) ?_
  refine S_icmp_ltN d_PG_isOnWire_9 rfl (by omega) (by omega) (fun c => by first | exact absurd c (by omega) | exact c.elim | exact absurd c (by decide) | exact absurd (by assumption) c | exact absurd c (by assumption) | exact absurd c (Int32.not_le.mpr (by assumption))) (fun _ => ?_)
  refine ST.lift (fun _ _ k => T_iload_n d_PG_isOnWire_12 rfl k) ?_
  refine ST.lift (fun _ _ k => T_iconst (v := nI 3) d_PG_isOnWire_13 (by decide) k) ?_
  refine S_icmp_gtN d_PG_isOnWire_14 rfl (by omega) (by omega) (fun c => by first | exact absurd c (by omega) | exact c.elim | exact absurd c (by decide) | exact absurd (by assumption) c | exact absurd c (by assumption) | exact absurd c (Int32.not_le.mpr (by assumption))) (fun _ => ?_)
  refine ST.lift (fun _ _ k => T_aload_n (v := .ref 61) d_PG_isOnWire_17 rfl (Or.inr ⟨_, rfl⟩) k) ?_
  refine S_getfield d_PG_isOnWire_18 fg_PG_34 (w61 _) rfl ?_
  refine ST.lift (fun _ _ k => T_iload_n d_PG_isOnWire_21 rfl k) ?_
  refine S_aaload (C0 := "PasswordGate$Session") d_PG_isOnWire_22 (by decide) (w264 _) rfl (vp_in_nI (by omega) (by omega)) ?_
  refine S_getfield d_PG_isOnWire_23 fg_PG_158 (w343 _) rfl ?_
  refine ST.lift (fun _ _ k => T_iload_n d_PG_isOnWire_26 rfl k) ?_
  refine ST.lift (fun _ _ k => T_iconst (v := nI 1) d_PG_isOnWire_27 (by decide) k) ?_
  refine S_isubN d_PG_isOnWire_28 (by omega) ?_
  refine S_topi (y := nI 1) (by decide) ?_
  refine S_aaload (C0 := "PasswordGate$Bytes") d_PG_isOnWire_29 (by decide) (w344 _) rfl (vp_in_nI (by omega) (by omega)) ?_
  refine ST.lift (fun _ _ k => T_iload_n d_PG_isOnWire_30 rfl k) ?_
  refine S_virtual (as := [.int (nI i)]) (rest := []) (b := 359) d_PG_isOnWire_31 rfl (jw_By_has.jo (by decide)) lm_PG_119 ji_By_has js_By_has (w359 _) rfl rfl rfl (Nat.le_of_ble_eq_true rfl) (by decide) (by decide) (c_By_has_in G v 359 360 320 59 ⟨w359, a360, by decide, u359_1, by decide, by decide⟩ i (by omega) k e59 (by omega) hv) (fun r u1 hq => ?_)
  obtain ⟨hr, hv2, hm3, fe0_u1⟩ := hq
  rw [hr]
  clear hr r
  have hm4 := hm.go hm3 (by intro i hi; simp only [List.mem_cons, List.not_mem_nil, or_false] at hi ⊢ <;> omega)
  have e5 : u1 59 = nI k := (hm3 59 (by decide)).trans e59
  show ST G mi_PG_isOnWire 34 [(0, .ref 61), (1, .int (nI 3)), (2, .int (nI 2)), (3, .int (nI i))] [.int (nI 1)] u1 0 0 _
  refine S_if_eqN d_PG_isOnWire_34 rfl (by omega) (fun c => by first | exact absurd c (by omega) | exact c.elim | exact absurd c (by decide) | exact absurd (by assumption) c | exact absurd c (by assumption) | exact absurd c (Int32.not_le.mpr (by assumption))) (fun _ => ?_)
  refine ST.lift (fun _ _ k => T_iconst (v := nI 1) d_PG_isOnWire_37 (by decide) k) ?_
  refine ST.lift (fun _ _ k => T_goto (tgt := 42) d_PG_isOnWire_38 rfl k) ?_
  refine S_topi (y := nI 1) (congrArg nI (by omega)) ?_
  exact S_ret d_PG_isOnWire_42 rfl (nar_z (by omega)) (by decide) (by decide) (hQ _ hv2 hm4 (fe0_u1.trans (congrArg nI (by omega))))
set_option maxRecDepth 100000 in
set_option maxHeartbeats 4000000 in
theorem c_PG_wire_3_2_in (G : GX) (v : Nat → Int32) (i : Nat) (b_i : i < 2147483648) (k : Nat) (e59 : v 59 = nI k) (hk : i < k ∧ k ≤ 320) (hv : okv v) : CS G mi_PG_wire [.ref 61, .int (nI 3), .int (nI 2), .int (nI i)] v (fun r v' => ∃ z : Int32, r = some (.int z) ∧ okv v' ∧ mdf [] v v' ∧ v' 59 = nI k) := by
  refine CS.of (by decide) (Nat.le_of_ble_eq_true rfl) ?_
  generalize hQe : (fun (r : Option Value) (v' : Nat → Int32) => ∃ z : Int32, r = some (.int z) ∧ okv v' ∧ mdf [] v v' ∧ v' 59 = nI k) = Q
  have hQ : ∀ (z : Int32) (u : Nat → Int32), okv u → mdf [] v u → u 59 = nI k → Q (some (.int z)) u := by rw [← hQe]; exact fun z u h1 h2 f0 => ⟨z, rfl, h1, h2, f0⟩
  clear hQe
  have hm : mdf [] v v := mdf.rf
  show ST G mi_PG_wire 0 [(0, .ref 61), (1, .int (nI 3)), (2, .int (nI 2)), (3, .int (nI i))] [] v 0 0 Q
  refine ST.lift (fun _ _ k => T_aload_n (v := .ref 61) d_PG_wire_0 rfl (Or.inr ⟨_, rfl⟩) k) ?_
  refine ST.lift (fun _ _ k => T_iload_n d_PG_wire_1 rfl k) ?_
  refine ST.lift (fun _ _ k => T_iload_n d_PG_wire_2 rfl k) ?_
  refine ST.lift (fun _ _ k => T_iload_n d_PG_wire_3 rfl k) ?_
  refine S_virtual (as := [.int (nI 3), .int (nI 2), .int (nI i)]) (rest := []) (b := 61) d_PG_wire_4 rfl (jw_PG_isOnWire.jo (by decide)) lm_PG_154 ji_PG_isOnWire js_PG_isOnWire (w61 _) rfl rfl rfl (Nat.le_of_ble_eq_true rfl) (by decide) (by decide) (c_PG_isOnWire_3_2_in G v i (by omega) k e59 (by omega) hv) (fun r u1 hq => ?_)
  obtain ⟨hr, hv2, hm3, fe0_u1⟩ := hq
  rw [hr]
  clear hr r
  have hm4 := hm.go hm3 (by intro i hi; simp only [List.mem_cons, List.not_mem_nil, or_false] at hi ⊢ <;> omega)
  have e5 : u1 59 = nI k := (hm3 59 (by decide)).trans e59
  show ST G mi_PG_wire 7 [(0, .ref 61), (1, .int (nI 3)), (2, .int (nI 2)), (3, .int (nI i))] [.int (nI 1)] u1 0 0 _
  refine S_if_neN d_PG_wire_7 rfl (by omega) (fun _ => ?_) (fun c => by first | exact absurd c (by omega) | exact c.elim | exact absurd c (by decide) | exact absurd (by assumption) c | exact absurd c (by assumption) | exact absurd c (Int32.not_le.mpr (by assumption)))
  refine ST.lift (fun _ _ k => T_aload_n (v := .ref 61) d_PG_wire_18 rfl (Or.inr ⟨_, rfl⟩) k) ?_
  refine S_getfield d_PG_wire_19 fg_PG_34 (w61 _) rfl ?_
  refine ST.lift (fun _ _ k => T_iload_n d_PG_wire_22 rfl k) ?_
  refine S_aaload (C0 := "PasswordGate$Session") d_PG_wire_23 (by decide) (w264 _) rfl (vp_in_nI (by omega) (by omega)) ?_
  refine S_getfield d_PG_wire_24 fg_PG_158 (w343 _) rfl ?_
  refine ST.lift (fun _ _ k => T_iload_n d_PG_wire_27 rfl k) ?_
  refine ST.lift (fun _ _ k => T_iconst (v := nI 1) d_PG_wire_28 (by decide) k) ?_
  refine S_isubN d_PG_wire_29 (by omega) ?_
  refine S_topi (y := nI 1) (by decide) ?_
  refine S_aaload (C0 := "PasswordGate$Bytes") d_PG_wire_30 (by decide) (w344 _) rfl (vp_in_nI (by omega) (by omega)) ?_
  refine S_getfield d_PG_wire_31 fg_PG_93 (w359 _) rfl ?_
  refine ST.lift (fun _ _ k => T_iload_n d_PG_wire_34 rfl k) ?_
  refine S_baload d_PG_wire_35 a360 (vp_in_nI (by omega) (by omega)) (fun z6 hz6 => ?_)
  refine ST.lift (fun _ _ k => T_sipush (v := nI 255) d_PG_wire_36 (by decide) k) ?_
  refine S_iandM 8 d_PG_wire_39 (by decide) (by decide) (fun j7 hj7 => ?_)
  simp only [Nat.reducePow] at hj7
  exact S_ret d_PG_wire_40 rfl rfl (by decide) (by decide) (hQ _ _ hv2 hm4 (fe0_u1.trans (congrArg nI (by omega))))
set_option maxRecDepth 100000 in
set_option maxHeartbeats 4000000 in
theorem c_PG_isOnWire_3_3_neg (G : GX) (v : Nat → Int32) (z : Int32) (hz_n : z < 0) (hv : okv v) : CS G mi_PG_isOnWire [.ref 61, .int (nI 3), .int (nI 3), .int z] v (fun r v' => r = some (.int (nI 0)) ∧ okv v' ∧ mdf [] v v') := by
  refine CS.of (by decide) (Nat.le_of_ble_eq_true rfl) ?_
  generalize hQe : (fun (r : Option Value) (v' : Nat → Int32) => r = some (.int (nI 0)) ∧ okv v' ∧ mdf [] v v') = Q
  have hQ : ∀ u, okv u → mdf [] v u → Q (some (.int (nI 0))) u := by rw [← hQe]; exact fun u h1 h2  => ⟨rfl, h1, h2⟩
  clear hQe
  have hm : mdf [] v v := mdf.rf
  show ST G mi_PG_isOnWire 0 [(0, .ref 61), (1, .int (nI 3)), (2, .int (nI 3)), (3, .int z)] [] v 0 0 Q
  refine ST.lift (fun _ _ k => T_iload_n d_PG_isOnWire_0 rfl k) ?_
  refine S_static (as := [.int (nI 3)]) (rest := []) d_PG_isOnWire_1 rfl (jw_PG_isSession.jo (by decide)) lm_PG_133 jt_PG_isSession rfl (Nat.le_of_ble_eq_true rfl) (by decide) (by decide) (c_PG_isSession G v 3 (by omega)) (fun r v' hq => ?_)
  rw [hq.1, hq.2]
  clear hq r v'
  show ST G mi_PG_isOnWire 4 [(0, .ref 61), (1, .int (nI 3)), (2, .int (nI 3)), (3, .int z)] [.int (nI 1)] v 0 0 _
  refine S_if_eqN d_PG_isOnWire_4 rfl (by omega) (fun c => by first | exact absurd c (by omega) | exact c.elim | exact absurd c (by decide) | exact absurd (by assumption) c | exact absurd c (by assumption) | exact absurd c (Int32.not_le.mpr (by assumption))) (fun _ => ?_)
  refine ST.lift (fun _ _ k => T_iload_n d_PG_isOnWire_7 rfl k) ?_
  refine ST.lift (fun _ _ k => T_iconst (v := nI 1) d_PG_isOnWire_8 (by decide) k) ?_
  refine S_icmp_ltN d_PG_isOnWire_9 rfl (by omega) (by omega) (fun c => by first | exact absurd c (by omega) | exact c.elim | exact absurd c (by decide) | exact absurd (by assumption) c | exact absurd c (by assumption) | exact absurd c (Int32.not_le.mpr (by assumption))) (fun _ => ?_)
  refine ST.lift (fun _ _ k => T_iload_n d_PG_isOnWire_12 rfl k) ?_
  refine ST.lift (fun _ _ k => T_iconst (v := nI 3) d_PG_isOnWire_13 (by decide) k) ?_
  refine S_icmp_gtN d_PG_isOnWire_14 rfl (by omega) (by omega) (fun c => by first | exact absurd c (by omega) | exact c.elim | exact absurd c (by decide) | exact absurd (by assumption) c | exact absurd c (by assumption) | exact absurd c (Int32.not_le.mpr (by assumption))) (fun _ => ?_)
  refine ST.lift (fun _ _ k => T_aload_n (v := .ref 61) d_PG_isOnWire_17 rfl (Or.inr ⟨_, rfl⟩) k) ?_
  refine S_getfield d_PG_isOnWire_18 fg_PG_34 (w61 _) rfl ?_
  refine ST.lift (fun _ _ k => T_iload_n d_PG_isOnWire_21 rfl k) ?_
  refine S_aaload (C0 := "PasswordGate$Session") d_PG_isOnWire_22 (by decide) (w264 _) rfl (vp_in_nI (by omega) (by omega)) ?_
  refine S_getfield d_PG_isOnWire_23 fg_PG_158 (w343 _) rfl ?_
  refine ST.lift (fun _ _ k => T_iload_n d_PG_isOnWire_26 rfl k) ?_
  refine ST.lift (fun _ _ k => T_iconst (v := nI 1) d_PG_isOnWire_27 (by decide) k) ?_
  refine S_isubN d_PG_isOnWire_28 (by omega) ?_
  refine S_topi (y := nI 2) (by decide) ?_
  refine S_aaload (C0 := "PasswordGate$Bytes") d_PG_isOnWire_29 (by decide) (w344 _) rfl (vp_in_nI (by omega) (by omega)) ?_
  refine ST.lift (fun _ _ k => T_iload_n d_PG_isOnWire_30 rfl k) ?_
  refine S_virtual (as := [.int z]) (rest := []) (b := 361) d_PG_isOnWire_31 rfl (jw_By_has.jo (by decide)) lm_PG_119 ji_By_has js_By_has (w361 _) rfl rfl rfl (Nat.le_of_ble_eq_true rfl) (by decide) (by decide) (c_By_has_neg G v 361 362 64 60 ⟨w361, a362, by decide, u361_1, by decide, by decide⟩ z hz_n hv) (fun r u1 hq => ?_)
  obtain ⟨hr, hv2, hm3⟩ := hq
  rw [hr]
  clear hr r
  have hm4 := hm.go hm3 (by intro i hi; simp only [List.mem_cons, List.not_mem_nil, or_false] at hi ⊢ <;> omega)
  show ST G mi_PG_isOnWire 34 [(0, .ref 61), (1, .int (nI 3)), (2, .int (nI 3)), (3, .int z)] [.int (nI 0)] u1 0 0 _
  refine S_if_eqN d_PG_isOnWire_34 rfl (by omega) (fun _ => ?_) (fun c => by first | exact absurd c (by omega) | exact c.elim | exact absurd c (by decide) | exact absurd (by assumption) c | exact absurd c (by assumption) | exact absurd c (Int32.not_le.mpr (by assumption)))
  refine ST.lift (fun _ _ k => T_iconst (v := nI 0) d_PG_isOnWire_41 (by decide) k) ?_
  refine S_topi (y := nI 0) (congrArg nI (by omega)) ?_
  exact S_ret d_PG_isOnWire_42 rfl (nar_z (by omega)) (by decide) (by decide) (hQ _ hv2 hm4)
set_option maxRecDepth 100000 in
set_option maxHeartbeats 4000000 in
theorem c_PG_tamper_3_3_neg (G : GX) (v : Nat → Int32) (z : Int32) (mask : Int32) (hz_n : z < 0) (hv : okv v) : CS G mi_PG_tamper [.ref 61, .int (nI 3), .int (nI 3), .int z, .int mask] v (fun r v' => r = some (.int (nI 0)) ∧ okv v' ∧ mdf [] v v') := by
  refine CS.of (by decide) (Nat.le_of_ble_eq_true rfl) ?_
  generalize hQe : (fun (r : Option Value) (v' : Nat → Int32) => r = some (.int (nI 0)) ∧ okv v' ∧ mdf [] v v') = Q
  have hQ : ∀ u, okv u → mdf [] v u → Q (some (.int (nI 0))) u := by rw [← hQe]; exact fun u h1 h2  => ⟨rfl, h1, h2⟩
  clear hQe
  have hm : mdf [] v v := mdf.rf
  show ST G mi_PG_tamper 0 [(0, .ref 61), (1, .int (nI 3)), (2, .int (nI 3)), (3, .int z), (4, .int mask)] [] v 0 0 Q
  refine ST.lift (fun _ _ k => T_aload_n (v := .ref 61) d_PG_tamper_0 rfl (Or.inr ⟨_, rfl⟩) k) ?_
  refine ST.lift (fun _ _ k => T_iload_n d_PG_tamper_1 rfl k) ?_
  refine ST.lift (fun _ _ k => T_iload_n d_PG_tamper_2 rfl k) ?_
  refine ST.lift (fun _ _ k => T_iload_n d_PG_tamper_3 rfl k) ?_
  refine S_virtual (as := [.int (nI 3), .int (nI 3), .int z]) (rest := []) (b := 61) d_PG_tamper_4 rfl (jw_PG_isOnWire.jo (by decide)) lm_PG_154 ji_PG_isOnWire js_PG_isOnWire (w61 _) rfl rfl rfl (Nat.le_of_ble_eq_true rfl) (by decide) (by decide) (c_PG_isOnWire_3_3_neg G v z hz_n hv) (fun r u1 hq => ?_)
  obtain ⟨hr, hv2, hm3⟩ := hq
  rw [hr]
  clear hr r
  have hm4 := hm.go hm3 (by intro i hi; simp only [List.mem_cons, List.not_mem_nil, or_false] at hi ⊢ <;> omega)
  show ST G mi_PG_tamper 7 [(0, .ref 61), (1, .int (nI 3)), (2, .int (nI 3)), (3, .int z), (4, .int mask)] [.int (nI 0)] u1 0 0 _
  refine S_if_neN d_PG_tamper_7 rfl (by omega) (fun c => by first | exact absurd c (by omega) | exact c.elim | exact absurd c (by decide) | exact absurd (by assumption) c | exact absurd c (by assumption) | exact absurd c (Int32.not_le.mpr (by assumption))) (fun _ => ?_)
  refine ST.lift (fun _ _ k => T_iconst (v := nI 0) d_PG_tamper_10 (by decide) k) ?_
  refine S_topi (y := nI 0) (congrArg nI (by omega)) ?_
  exact S_ret d_PG_tamper_11 rfl (nar_z (by omega)) (by decide) (by decide) (hQ _ hv2 hm4)
set_option maxRecDepth 100000 in
set_option maxHeartbeats 4000000 in
theorem c_PG_isOnWire_3_3_out (G : GX) (v : Nat → Int32) (i : Nat) (b_i : i < 2147483648) (k : Nat) (e60 : v 60 = nI k) (hk : k ≤ i ∧ k ≤ 64) (hv : okv v) : CS G mi_PG_isOnWire [.ref 61, .int (nI 3), .int (nI 3), .int (nI i)] v (fun r v' => r = some (.int (nI 0)) ∧ okv v' ∧ mdf [] v v' ∧ v' 60 = nI k) := by
  refine CS.of (by decide) (Nat.le_of_ble_eq_true rfl) ?_
  generalize hQe : (fun (r : Option Value) (v' : Nat → Int32) => r = some (.int (nI 0)) ∧ okv v' ∧ mdf [] v v' ∧ v' 60 = nI k) = Q
  have hQ : ∀ u, okv u → mdf [] v u → u 60 = nI k → Q (some (.int (nI 0))) u := by rw [← hQe]; exact fun u h1 h2 f0 => ⟨rfl, h1, h2, f0⟩
  clear hQe
  have hm : mdf [] v v := mdf.rf
  show ST G mi_PG_isOnWire 0 [(0, .ref 61), (1, .int (nI 3)), (2, .int (nI 3)), (3, .int (nI i))] [] v 0 0 Q
  refine ST.lift (fun _ _ k => T_iload_n d_PG_isOnWire_0 rfl k) ?_
  refine S_static (as := [.int (nI 3)]) (rest := []) d_PG_isOnWire_1 rfl (jw_PG_isSession.jo (by decide)) lm_PG_133 jt_PG_isSession rfl (Nat.le_of_ble_eq_true rfl) (by decide) (by decide) (c_PG_isSession G v 3 (by omega)) (fun r v' hq => ?_)
  rw [hq.1, hq.2]
  clear hq r v'
  show ST G mi_PG_isOnWire 4 [(0, .ref 61), (1, .int (nI 3)), (2, .int (nI 3)), (3, .int (nI i))] [.int (nI 1)] v 0 0 _
  refine S_if_eqN d_PG_isOnWire_4 rfl (by omega) (fun c => by first | exact absurd c (by omega) | exact c.elim | exact absurd c (by decide) | exact absurd (by assumption) c | exact absurd c (by assumption) | exact absurd c (Int32.not_le.mpr (by assumption))) (fun _ => ?_)
  refine ST.lift (fun _ _ k => T_iload_n d_PG_isOnWire_7 rfl k) ?_
  refine ST.lift (fun _ _ k => T_iconst (v := nI 1) d_PG_isOnWire_8 (by decide) k) ?_
  refine S_icmp_ltN d_PG_isOnWire_9 rfl (by omega) (by omega) (fun c => by first | exact absurd c (by omega) | exact c.elim | exact absurd c (by decide) | exact absurd (by assumption) c | exact absurd c (by assumption) | exact absurd c (Int32.not_le.mpr (by assumption))) (fun _ => ?_)
  refine ST.lift (fun _ _ k => T_iload_n d_PG_isOnWire_12 rfl k) ?_
  refine ST.lift (fun _ _ k => T_iconst (v := nI 3) d_PG_isOnWire_13 (by decide) k) ?_
  refine S_icmp_gtN d_PG_isOnWire_14 rfl (by omega) (by omega) (fun c => by first | exact absurd c (by omega) | exact c.elim | exact absurd c (by decide) | exact absurd (by assumption) c | exact absurd c (by assumption) | exact absurd c (Int32.not_le.mpr (by assumption))) (fun _ => ?_)
  refine ST.lift (fun _ _ k => T_aload_n (v := .ref 61) d_PG_isOnWire_17 rfl (Or.inr ⟨_, rfl⟩) k) ?_
  refine S_getfield d_PG_isOnWire_18 fg_PG_34 (w61 _) rfl ?_
  refine ST.lift (fun _ _ k => T_iload_n d_PG_isOnWire_21 rfl k) ?_
  refine S_aaload (C0 := "PasswordGate$Session") d_PG_isOnWire_22 (by decide) (w264 _) rfl (vp_in_nI (by omega) (by omega)) ?_
  refine S_getfield d_PG_isOnWire_23 fg_PG_158 (w343 _) rfl ?_
  refine ST.lift (fun _ _ k => T_iload_n d_PG_isOnWire_26 rfl k) ?_
  refine ST.lift (fun _ _ k => T_iconst (v := nI 1) d_PG_isOnWire_27 (by decide) k) ?_
  refine S_isubN d_PG_isOnWire_28 (by omega) ?_
  refine S_topi (y := nI 2) (by decide) ?_
  refine S_aaload (C0 := "PasswordGate$Bytes") d_PG_isOnWire_29 (by decide) (w344 _) rfl (vp_in_nI (by omega) (by omega)) ?_
  refine ST.lift (fun _ _ k => T_iload_n d_PG_isOnWire_30 rfl k) ?_
  refine S_virtual (as := [.int (nI i)]) (rest := []) (b := 361) d_PG_isOnWire_31 rfl (jw_By_has.jo (by decide)) lm_PG_119 ji_By_has js_By_has (w361 _) rfl rfl rfl (Nat.le_of_ble_eq_true rfl) (by decide) (by decide) (c_By_has_out G v 361 362 64 60 ⟨w361, a362, by decide, u361_1, by decide, by decide⟩ i (by omega) k e60 (by omega) hv) (fun r u1 hq => ?_)
  obtain ⟨hr, hv2, hm3, fe0_u1⟩ := hq
  rw [hr]
  clear hr r
  have hm4 := hm.go hm3 (by intro i hi; simp only [List.mem_cons, List.not_mem_nil, or_false] at hi ⊢ <;> omega)
  have e5 : u1 60 = nI k := (hm3 60 (by decide)).trans e60
  show ST G mi_PG_isOnWire 34 [(0, .ref 61), (1, .int (nI 3)), (2, .int (nI 3)), (3, .int (nI i))] [.int (nI 0)] u1 0 0 _
  refine S_if_eqN d_PG_isOnWire_34 rfl (by omega) (fun _ => ?_) (fun c => by first | exact absurd c (by omega) | exact c.elim | exact absurd c (by decide) | exact absurd (by assumption) c | exact absurd c (by assumption) | exact absurd c (Int32.not_le.mpr (by assumption)))
  refine ST.lift (fun _ _ k => T_iconst (v := nI 0) d_PG_isOnWire_41 (by decide) k) ?_
  refine S_topi (y := nI 0) (congrArg nI (by omega)) ?_
  exact S_ret d_PG_isOnWire_42 rfl (nar_z (by omega)) (by decide) (by decide) (hQ _ hv2 hm4 (fe0_u1.trans (congrArg nI (by omega))))
set_option maxRecDepth 100000 in
set_option maxHeartbeats 4000000 in
theorem c_PG_tamper_3_3_out (G : GX) (v : Nat → Int32) (i : Nat) (b_i : i < 2147483648) (mask : Int32) (k : Nat) (e60 : v 60 = nI k) (hk : k ≤ i ∧ k ≤ 64) (hv : okv v) : CS G mi_PG_tamper [.ref 61, .int (nI 3), .int (nI 3), .int (nI i), .int mask] v (fun r v' => r = some (.int (nI 0)) ∧ okv v' ∧ mdf [] v v' ∧ v' 60 = nI k) := by
  refine CS.of (by decide) (Nat.le_of_ble_eq_true rfl) ?_
  generalize hQe : (fun (r : Option Value) (v' : Nat → Int32) => r = some (.int (nI 0)) ∧ okv v' ∧ mdf [] v v' ∧ v' 60 = nI k) = Q
  have hQ : ∀ u, okv u → mdf [] v u → u 60 = nI k → Q (some (.int (nI 0))) u := by rw [← hQe]; exact fun u h1 h2 f0 => ⟨rfl, h1, h2, f0⟩
  clear hQe
  have hm : mdf [] v v := mdf.rf
  show ST G mi_PG_tamper 0 [(0, .ref 61), (1, .int (nI 3)), (2, .int (nI 3)), (3, .int (nI i)), (4, .int mask)] [] v 0 0 Q
  refine ST.lift (fun _ _ k => T_aload_n (v := .ref 61) d_PG_tamper_0 rfl (Or.inr ⟨_, rfl⟩) k) ?_
  refine ST.lift (fun _ _ k => T_iload_n d_PG_tamper_1 rfl k) ?_
  refine ST.lift (fun _ _ k => T_iload_n d_PG_tamper_2 rfl k) ?_
  refine ST.lift (fun _ _ k => T_iload_n d_PG_tamper_3 rfl k) ?_
  refine S_virtual (as := [.int (nI 3), .int (nI 3), .int (nI i)]) (rest := []) (b := 61) d_PG_tamper_4 rfl (jw_PG_isOnWire.jo (by decide)) lm_PG_154 ji_PG_isOnWire js_PG_isOnWire (w61 _) rfl rfl rfl (Nat.le_of_ble_eq_true rfl) (by decide) (by decide) (c_PG_isOnWire_3_3_out G v i (by omega) k e60 (by omega) hv) (fun r u1 hq => ?_)
  obtain ⟨hr, hv2, hm3, fe0_u1⟩ := hq
  rw [hr]
  clear hr r
  have hm4 := hm.go hm3 (by intro i hi; simp only [List.mem_cons, List.not_mem_nil, or_false] at hi ⊢ <;> omega)
  have e5 : u1 60 = nI k := (hm3 60 (by decide)).trans e60
  show ST G mi_PG_tamper 7 [(0, .ref 61), (1, .int (nI 3)), (2, .int (nI 3)), (3, .int (nI i)), (4, .int mask)] [.int (nI 0)] u1 0 0 _
  refine S_if_neN d_PG_tamper_7 rfl (by omega) (fun c => by first | exact absurd c (by omega) | exact c.elim | exact absurd c (by decide) | exact absurd (by assumption) c | exact absurd c (by assumption) | exact absurd c (Int32.not_le.mpr (by assumption))) (fun _ => ?_)
  refine ST.lift (fun _ _ k => T_iconst (v := nI 0) d_PG_tamper_10 (by decide) k) ?_
  refine S_topi (y := nI 0) (congrArg nI (by omega)) ?_
  exact S_ret d_PG_tamper_11 rfl (nar_z (by omega)) (by decide) (by decide) (hQ _ hv2 hm4 (fe0_u1.trans (congrArg nI (by omega))))
set_option maxRecDepth 100000 in
set_option maxHeartbeats 4000000 in
theorem c_PG_isOnWire_3_3_in (G : GX) (v : Nat → Int32) (i : Nat) (b_i : i < 2147483648) (k : Nat) (e60 : v 60 = nI k) (hk : i < k ∧ k ≤ 64) (hv : okv v) : CS G mi_PG_isOnWire [.ref 61, .int (nI 3), .int (nI 3), .int (nI i)] v (fun r v' => r = some (.int (nI 1)) ∧ okv v' ∧ mdf [] v v' ∧ v' 60 = nI k) := by
  refine CS.of (by decide) (Nat.le_of_ble_eq_true rfl) ?_
  generalize hQe : (fun (r : Option Value) (v' : Nat → Int32) => r = some (.int (nI 1)) ∧ okv v' ∧ mdf [] v v' ∧ v' 60 = nI k) = Q
  have hQ : ∀ u, okv u → mdf [] v u → u 60 = nI k → Q (some (.int (nI 1))) u := by rw [← hQe]; exact fun u h1 h2 f0 => ⟨rfl, h1, h2, f0⟩
  clear hQe
  have hm : mdf [] v v := mdf.rf
  show ST G mi_PG_isOnWire 0 [(0, .ref 61), (1, .int (nI 3)), (2, .int (nI 3)), (3, .int (nI i))] [] v 0 0 Q
  refine ST.lift (fun _ _ k => T_iload_n d_PG_isOnWire_0 rfl k) ?_
  refine S_static (as := [.int (nI 3)]) (rest := []) d_PG_isOnWire_1 rfl (jw_PG_isSession.jo (by decide)) lm_PG_133 jt_PG_isSession rfl (Nat.le_of_ble_eq_true rfl) (by decide) (by decide) (c_PG_isSession G v 3 (by omega)) (fun r v' hq => ?_)
  rw [hq.1, hq.2]
  clear hq r v'
  show ST G mi_PG_isOnWire 4 [(0, .ref 61), (1, .int (nI 3)), (2, .int (nI 3)), (3, .int (nI i))] [.int (nI 1)] v 0 0 _
  refine S_if_eqN d_PG_isOnWire_4 rfl (by omega) (fun c => by first | exact absurd c (by omega) | exact c.elim | exact absurd c (by decide) | exact absurd (by assumption) c | exact absurd c (by assumption) | exact absurd c (Int32.not_le.mpr (by assumption))) (fun _ => ?_)
  refine ST.lift (fun _ _ k => T_iload_n d_PG_isOnWire_7 rfl k) ?_
  refine ST.lift (fun _ _ k => T_iconst (v := nI 1) d_PG_isOnWire_8 (by decide) k) ?_
  refine S_icmp_ltN d_PG_isOnWire_9 rfl (by omega) (by omega) (fun c => by first | exact absurd c (by omega) | exact c.elim | exact absurd c (by decide) | exact absurd (by assumption) c | exact absurd c (by assumption) | exact absurd c (Int32.not_le.mpr (by assumption))) (fun _ => ?_)
  refine ST.lift (fun _ _ k => T_iload_n d_PG_isOnWire_12 rfl k) ?_
  refine ST.lift (fun _ _ k => T_iconst (v := nI 3) d_PG_isOnWire_13 (by decide) k) ?_
  refine S_icmp_gtN d_PG_isOnWire_14 rfl (by omega) (by omega) (fun c => by first | exact absurd c (by omega) | exact c.elim | exact absurd c (by decide) | exact absurd (by assumption) c | exact absurd c (by assumption) | exact absurd c (Int32.not_le.mpr (by assumption))) (fun _ => ?_)
  refine ST.lift (fun _ _ k => T_aload_n (v := .ref 61) d_PG_isOnWire_17 rfl (Or.inr ⟨_, rfl⟩) k) ?_
  refine S_getfield d_PG_isOnWire_18 fg_PG_34 (w61 _) rfl ?_
  refine ST.lift (fun _ _ k => T_iload_n d_PG_isOnWire_21 rfl k) ?_
  refine S_aaload (C0 := "PasswordGate$Session") d_PG_isOnWire_22 (by decide) (w264 _) rfl (vp_in_nI (by omega) (by omega)) ?_
  refine S_getfield d_PG_isOnWire_23 fg_PG_158 (w343 _) rfl ?_
  refine ST.lift (fun _ _ k => T_iload_n d_PG_isOnWire_26 rfl k) ?_
  refine ST.lift (fun _ _ k => T_iconst (v := nI 1) d_PG_isOnWire_27 (by decide) k) ?_
  refine S_isubN d_PG_isOnWire_28 (by omega) ?_
  refine S_topi (y := nI 2) (by decide) ?_
  refine S_aaload (C0 := "PasswordGate$Bytes") d_PG_isOnWire_29 (by decide) (w344 _) rfl (vp_in_nI (by omega) (by omega)) ?_
  refine ST.lift (fun _ _ k => T_iload_n d_PG_isOnWire_30 rfl k) ?_
  refine S_virtual (as := [.int (nI i)]) (rest := []) (b := 361) d_PG_isOnWire_31 rfl (jw_By_has.jo (by decide)) lm_PG_119 ji_By_has js_By_has (w361 _) rfl rfl rfl (Nat.le_of_ble_eq_true rfl) (by decide) (by decide) (c_By_has_in G v 361 362 64 60 ⟨w361, a362, by decide, u361_1, by decide, by decide⟩ i (by omega) k e60 (by omega) hv) (fun r u1 hq => ?_)
  obtain ⟨hr, hv2, hm3, fe0_u1⟩ := hq
  rw [hr]
  clear hr r
  have hm4 := hm.go hm3 (by intro i hi; simp only [List.mem_cons, List.not_mem_nil, or_false] at hi ⊢ <;> omega)
  have e5 : u1 60 = nI k := (hm3 60 (by decide)).trans e60
  show ST G mi_PG_isOnWire 34 [(0, .ref 61), (1, .int (nI 3)), (2, .int (nI 3)), (3, .int (nI i))] [.int (nI 1)] u1 0 0 _
  refine S_if_eqN d_PG_isOnWire_34 rfl (by omega) (fun c => by first | exact absurd c (by omega) | exact c.elim | exact absurd c (by decide) | exact absurd (by assumption) c | exact absurd c (by assumption) | exact absurd c (Int32.not_le.mpr (by assumption))) (fun _ => ?_)
  refine ST.lift (fun _ _ k => T_iconst (v := nI 1) d_PG_isOnWire_37 (by decide) k) ?_
  refine ST.lift (fun _ _ k => T_goto (tgt := 42) d_PG_isOnWire_38 rfl k) ?_
  refine S_topi (y := nI 1) (congrArg nI (by omega)) ?_
  exact S_ret d_PG_isOnWire_42 rfl (nar_z (by omega)) (by decide) (by decide) (hQ _ hv2 hm4 (fe0_u1.trans (congrArg nI (by omega))))
set_option maxRecDepth 100000 in
set_option maxHeartbeats 4000000 in
theorem c_PG_wire_3_3_in (G : GX) (v : Nat → Int32) (i : Nat) (b_i : i < 2147483648) (k : Nat) (e60 : v 60 = nI k) (hk : i < k ∧ k ≤ 64) (hv : okv v) : CS G mi_PG_wire [.ref 61, .int (nI 3), .int (nI 3), .int (nI i)] v (fun r v' => ∃ z : Int32, r = some (.int z) ∧ okv v' ∧ mdf [] v v' ∧ v' 60 = nI k) := by
  refine CS.of (by decide) (Nat.le_of_ble_eq_true rfl) ?_
  generalize hQe : (fun (r : Option Value) (v' : Nat → Int32) => ∃ z : Int32, r = some (.int z) ∧ okv v' ∧ mdf [] v v' ∧ v' 60 = nI k) = Q
  have hQ : ∀ (z : Int32) (u : Nat → Int32), okv u → mdf [] v u → u 60 = nI k → Q (some (.int z)) u := by rw [← hQe]; exact fun z u h1 h2 f0 => ⟨z, rfl, h1, h2, f0⟩
  clear hQe
  have hm : mdf [] v v := mdf.rf
  show ST G mi_PG_wire 0 [(0, .ref 61), (1, .int (nI 3)), (2, .int (nI 3)), (3, .int (nI i))] [] v 0 0 Q
  refine ST.lift (fun _ _ k => T_aload_n (v := .ref 61) d_PG_wire_0 rfl (Or.inr ⟨_, rfl⟩) k) ?_
  refine ST.lift (fun _ _ k => T_iload_n d_PG_wire_1 rfl k) ?_
  refine ST.lift (fun _ _ k => T_iload_n d_PG_wire_2 rfl k) ?_
  refine ST.lift (fun _ _ k => T_iload_n d_PG_wire_3 rfl k) ?_
  refine S_virtual (as := [.int (nI 3), .int (nI 3), .int (nI i)]) (rest := []) (b := 61) d_PG_wire_4 rfl (jw_PG_isOnWire.jo (by decide)) lm_PG_154 ji_PG_isOnWire js_PG_isOnWire (w61 _) rfl rfl rfl (Nat.le_of_ble_eq_true rfl) (by decide) (by decide) (c_PG_isOnWire_3_3_in G v i (by omega) k e60 (by omega) hv) (fun r u1 hq => ?_)
  obtain ⟨hr, hv2, hm3, fe0_u1⟩ := hq
  rw [hr]
  clear hr r
  have hm4 := hm.go hm3 (by intro i hi; simp only [List.mem_cons, List.not_mem_nil, or_false] at hi ⊢ <;> omega)
  have e5 : u1 60 = nI k := (hm3 60 (by decide)).trans e60
  show ST G mi_PG_wire 7 [(0, .ref 61), (1, .int (nI 3)), (2, .int (nI 3)), (3, .int (nI i))] [.int (nI 1)] u1 0 0 _
  refine S_if_neN d_PG_wire_7 rfl (by omega) (fun _ => ?_) (fun c => by first | exact absurd c (by omega) | exact c.elim | exact absurd c (by decide) | exact absurd (by assumption) c | exact absurd c (by assumption) | exact absurd c (Int32.not_le.mpr (by assumption)))
  refine ST.lift (fun _ _ k => T_aload_n (v := .ref 61) d_PG_wire_18 rfl (Or.inr ⟨_, rfl⟩) k) ?_
  refine S_getfield d_PG_wire_19 fg_PG_34 (w61 _) rfl ?_
  refine ST.lift (fun _ _ k => T_iload_n d_PG_wire_22 rfl k) ?_
  refine S_aaload (C0 := "PasswordGate$Session") d_PG_wire_23 (by decide) (w264 _) rfl (vp_in_nI (by omega) (by omega)) ?_
  refine S_getfield d_PG_wire_24 fg_PG_158 (w343 _) rfl ?_
  refine ST.lift (fun _ _ k => T_iload_n d_PG_wire_27 rfl k) ?_
  refine ST.lift (fun _ _ k => T_iconst (v := nI 1) d_PG_wire_28 (by decide) k) ?_
  refine S_isubN d_PG_wire_29 (by omega) ?_
  refine S_topi (y := nI 2) (by decide) ?_
  refine S_aaload (C0 := "PasswordGate$Bytes") d_PG_wire_30 (by decide) (w344 _) rfl (vp_in_nI (by omega) (by omega)) ?_
  refine S_getfield d_PG_wire_31 fg_PG_93 (w361 _) rfl ?_
  refine ST.lift (fun _ _ k => T_iload_n d_PG_wire_34 rfl k) ?_
  refine S_baload d_PG_wire_35 a362 (vp_in_nI (by omega) (by omega)) (fun z6 hz6 => ?_)
  refine ST.lift (fun _ _ k => T_sipush (v := nI 255) d_PG_wire_36 (by decide) k) ?_
  refine S_iandM 8 d_PG_wire_39 (by decide) (by decide) (fun j7 hj7 => ?_)
  simp only [Nat.reducePow] at hj7
  exact S_ret d_PG_wire_40 rfl rfl (by decide) (by decide) (hQ _ _ hv2 hm4 (fe0_u1.trans (congrArg nI (by omega))))
set_option maxRecDepth 100000 in
set_option maxHeartbeats 4000000 in
theorem c_PG_key_3_0_in (G : GX) (v : Nat → Int32) (i : Nat) (b_i : i < 2147483648) (k : Nat) (e61 : v 61 = nI k) (hk : i < k ∧ k ≤ 64) (hv : okv v) : CS G mi_PG_key [.ref 61, .int (nI 3), .int (nI 0), .int (nI i)] v (fun r v' => ∃ z : Int32, r = some (.int z) ∧ okv v' ∧ mdf [] v v' ∧ v' 61 = nI k) := by
  refine CS.of (by decide) (Nat.le_of_ble_eq_true rfl) ?_
  generalize hQe : (fun (r : Option Value) (v' : Nat → Int32) => ∃ z : Int32, r = some (.int z) ∧ okv v' ∧ mdf [] v v' ∧ v' 61 = nI k) = Q
  have hQ : ∀ (z : Int32) (u : Nat → Int32), okv u → mdf [] v u → u 61 = nI k → Q (some (.int z)) u := by rw [← hQe]; exact fun z u h1 h2 f0 => ⟨z, rfl, h1, h2, f0⟩
  clear hQe
  have hm : mdf [] v v := mdf.rf
  show ST G mi_PG_key 0 [(0, .ref 61), (1, .int (nI 3)), (2, .int (nI 0)), (3, .int (nI i))] [] v 0 0 Q
  refine ST.lift (fun _ _ k => T_iload_n d_PG_key_0 rfl k) ?_
  refine S_static (as := [.int (nI 3)]) (rest := []) d_PG_key_1 rfl (jw_PG_isSession.jo (by decide)) lm_PG_133 jt_PG_isSession rfl (Nat.le_of_ble_eq_true rfl) (by decide) (by decide) (c_PG_isSession G v 3 (by omega)) (fun r v' hq => ?_)
  rw [hq.1, hq.2]
  clear hq r v'
  show ST G mi_PG_key 4 [(0, .ref 61), (1, .int (nI 3)), (2, .int (nI 0)), (3, .int (nI i))] [.int (nI 1)] v 0 0 _
  refine S_if_eqN d_PG_key_4 rfl (by omega) (fun c => by first | exact absurd c (by omega) | exact c.elim | exact absurd c (by decide) | exact absurd (by assumption) c | exact absurd c (by assumption) | exact absurd c (Int32.not_le.mpr (by assumption))) (fun _ => ?_)
  refine ST.lift (fun _ _ k => T_iload_n d_PG_key_7 rfl k) ?_
  refine S_if_ltN d_PG_key_8 rfl (by omega) (fun c => by first | exact absurd c (by omega) | exact c.elim | exact absurd c (by decide) | exact absurd (by assumption) c | exact absurd c (by assumption) | exact absurd c (Int32.not_le.mpr (by assumption))) (fun _ => ?_)
  refine ST.lift (fun _ _ k => T_iload_n d_PG_key_11 rfl k) ?_
  refine ST.lift (fun _ _ k => T_iconst (v := nI 2) d_PG_key_12 (by decide) k) ?_
  refine S_icmp_gtN d_PG_key_13 rfl (by omega) (by omega) (fun c => by first | exact absurd c (by omega) | exact c.elim | exact absurd c (by decide) | exact absurd (by assumption) c | exact absurd c (by assumption) | exact absurd c (Int32.not_le.mpr (by assumption))) (fun _ => ?_)
  refine ST.lift (fun _ _ k => T_aload_n (v := .ref 61) d_PG_key_16 rfl (Or.inr ⟨_, rfl⟩) k) ?_
  refine S_getfield d_PG_key_17 fg_PG_34 (w61 _) rfl ?_
  refine ST.lift (fun _ _ k => T_iload_n d_PG_key_20 rfl k) ?_
  refine S_aaload (C0 := "PasswordGate$Session") d_PG_key_21 (by decide) (w264 _) rfl (vp_in_nI (by omega) (by omega)) ?_
  refine S_getfield d_PG_key_22 fg_PG_162 (w343 _) rfl ?_
  refine ST.lift (fun _ _ k => T_iload_n d_PG_key_25 rfl k) ?_
  refine S_aaload (C0 := "PasswordGate$Bytes") d_PG_key_26 (by decide) (w345 _) rfl (vp_in_nI (by omega) (by omega)) ?_
  refine ST.lift (fun _ _ k => T_iload_n d_PG_key_27 rfl k) ?_
  refine S_virtual (as := [.int (nI i)]) (rest := []) (b := 363) d_PG_key_28 rfl (jw_By_has.jo (by decide)) lm_PG_119 ji_By_has js_By_has (w363 _) rfl rfl rfl (Nat.le_of_ble_eq_true rfl) (by decide) (by decide) (c_By_has_in G v 363 364 64 61 ⟨w363, a364, by decide, u363_1, by decide, by decide⟩ i (by omega) k e61 (by omega) hv) (fun r u1 hq => ?_)
  obtain ⟨hr, hv2, hm3, fe0_u1⟩ := hq
  rw [hr]
  clear hr r
  have hm4 := hm.go hm3 (by intro i hi; simp only [List.mem_cons, List.not_mem_nil, or_false] at hi ⊢ <;> omega)
  have e5 : u1 61 = nI k := (hm3 61 (by decide)).trans e61
  show ST G mi_PG_key 31 [(0, .ref 61), (1, .int (nI 3)), (2, .int (nI 0)), (3, .int (nI i))] [.int (nI 1)] u1 0 0 _
  refine S_if_neN d_PG_key_31 rfl (by omega) (fun _ => ?_) (fun c => by first | exact absurd c (by omega) | exact c.elim | exact absurd c (by decide) | exact absurd (by assumption) c | exact absurd c (by assumption) | exact absurd c (Int32.not_le.mpr (by assumption)))
  refine ST.lift (fun _ _ k => T_aload_n (v := .ref 61) d_PG_key_42 rfl (Or.inr ⟨_, rfl⟩) k) ?_
  refine S_getfield d_PG_key_43 fg_PG_34 (w61 _) rfl ?_
  refine ST.lift (fun _ _ k => T_iload_n d_PG_key_46 rfl k) ?_
  refine S_aaload (C0 := "PasswordGate$Session") d_PG_key_47 (by decide) (w264 _) rfl (vp_in_nI (by omega) (by omega)) ?_
  refine S_getfield d_PG_key_48 fg_PG_162 (w343 _) rfl ?_
  refine ST.lift (fun _ _ k => T_iload_n d_PG_key_51 rfl k) ?_
  refine S_aaload (C0 := "PasswordGate$Bytes") d_PG_key_52 (by decide) (w345 _) rfl (vp_in_nI (by omega) (by omega)) ?_
  refine S_getfield d_PG_key_53 fg_PG_93 (w363 _) rfl ?_
  refine ST.lift (fun _ _ k => T_iload_n d_PG_key_56 rfl k) ?_
  refine S_baload d_PG_key_57 a364 (vp_in_nI (by omega) (by omega)) (fun z6 hz6 => ?_)
  refine ST.lift (fun _ _ k => T_sipush (v := nI 255) d_PG_key_58 (by decide) k) ?_
  refine S_iandM 8 d_PG_key_61 (by decide) (by decide) (fun j7 hj7 => ?_)
  simp only [Nat.reducePow] at hj7
  exact S_ret d_PG_key_62 rfl rfl (by decide) (by decide) (hQ _ _ hv2 hm4 (fe0_u1.trans (congrArg nI (by omega))))
set_option maxRecDepth 100000 in
set_option maxHeartbeats 4000000 in
theorem c_PG_key_3_1_in (G : GX) (v : Nat → Int32) (i : Nat) (b_i : i < 2147483648) (k : Nat) (e62 : v 62 = nI k) (hk : i < k ∧ k ≤ 64) (hv : okv v) : CS G mi_PG_key [.ref 61, .int (nI 3), .int (nI 1), .int (nI i)] v (fun r v' => ∃ z : Int32, r = some (.int z) ∧ okv v' ∧ mdf [] v v' ∧ v' 62 = nI k) := by
  refine CS.of (by decide) (Nat.le_of_ble_eq_true rfl) ?_
  generalize hQe : (fun (r : Option Value) (v' : Nat → Int32) => ∃ z : Int32, r = some (.int z) ∧ okv v' ∧ mdf [] v v' ∧ v' 62 = nI k) = Q
  have hQ : ∀ (z : Int32) (u : Nat → Int32), okv u → mdf [] v u → u 62 = nI k → Q (some (.int z)) u := by rw [← hQe]; exact fun z u h1 h2 f0 => ⟨z, rfl, h1, h2, f0⟩
  clear hQe
  have hm : mdf [] v v := mdf.rf
  show ST G mi_PG_key 0 [(0, .ref 61), (1, .int (nI 3)), (2, .int (nI 1)), (3, .int (nI i))] [] v 0 0 Q
  refine ST.lift (fun _ _ k => T_iload_n d_PG_key_0 rfl k) ?_
  refine S_static (as := [.int (nI 3)]) (rest := []) d_PG_key_1 rfl (jw_PG_isSession.jo (by decide)) lm_PG_133 jt_PG_isSession rfl (Nat.le_of_ble_eq_true rfl) (by decide) (by decide) (c_PG_isSession G v 3 (by omega)) (fun r v' hq => ?_)
  rw [hq.1, hq.2]
  clear hq r v'
  show ST G mi_PG_key 4 [(0, .ref 61), (1, .int (nI 3)), (2, .int (nI 1)), (3, .int (nI i))] [.int (nI 1)] v 0 0 _
  refine S_if_eqN d_PG_key_4 rfl (by omega) (fun c => by first | exact absurd c (by omega) | exact c.elim | exact absurd c (by decide) | exact absurd (by assumption) c | exact absurd c (by assumption) | exact absurd c (Int32.not_le.mpr (by assumption))) (fun _ => ?_)
  refine ST.lift (fun _ _ k => T_iload_n d_PG_key_7 rfl k) ?_
  refine S_if_ltN d_PG_key_8 rfl (by omega) (fun c => by first | exact absurd c (by omega) | exact c.elim | exact absurd c (by decide) | exact absurd (by assumption) c | exact absurd c (by assumption) | exact absurd c (Int32.not_le.mpr (by assumption))) (fun _ => ?_)
  refine ST.lift (fun _ _ k => T_iload_n d_PG_key_11 rfl k) ?_
  refine ST.lift (fun _ _ k => T_iconst (v := nI 2) d_PG_key_12 (by decide) k) ?_
  refine S_icmp_gtN d_PG_key_13 rfl (by omega) (by omega) (fun c => by first | exact absurd c (by omega) | exact c.elim | exact absurd c (by decide) | exact absurd (by assumption) c | exact absurd c (by assumption) | exact absurd c (Int32.not_le.mpr (by assumption))) (fun _ => ?_)
  refine ST.lift (fun _ _ k => T_aload_n (v := .ref 61) d_PG_key_16 rfl (Or.inr ⟨_, rfl⟩) k) ?_
  refine S_getfield d_PG_key_17 fg_PG_34 (w61 _) rfl ?_
  refine ST.lift (fun _ _ k => T_iload_n d_PG_key_20 rfl k) ?_
  refine S_aaload (C0 := "PasswordGate$Session") d_PG_key_21 (by decide) (w264 _) rfl (vp_in_nI (by omega) (by omega)) ?_
  refine S_getfield d_PG_key_22 fg_PG_162 (w343 _) rfl ?_
  refine ST.lift (fun _ _ k => T_iload_n d_PG_key_25 rfl k) ?_
  refine S_aaload (C0 := "PasswordGate$Bytes") d_PG_key_26 (by decide) (w345 _) rfl (vp_in_nI (by omega) (by omega)) ?_
  refine ST.lift (fun _ _ k => T_iload_n d_PG_key_27 rfl k) ?_
  refine S_virtual (as := [.int (nI i)]) (rest := []) (b := 365) d_PG_key_28 rfl (jw_By_has.jo (by decide)) lm_PG_119 ji_By_has js_By_has (w365 _) rfl rfl rfl (Nat.le_of_ble_eq_true rfl) (by decide) (by decide) (c_By_has_in G v 365 366 64 62 ⟨w365, a366, by decide, u365_1, by decide, by decide⟩ i (by omega) k e62 (by omega) hv) (fun r u1 hq => ?_)
  obtain ⟨hr, hv2, hm3, fe0_u1⟩ := hq
  rw [hr]
  clear hr r
  have hm4 := hm.go hm3 (by intro i hi; simp only [List.mem_cons, List.not_mem_nil, or_false] at hi ⊢ <;> omega)
  have e5 : u1 62 = nI k := (hm3 62 (by decide)).trans e62
  show ST G mi_PG_key 31 [(0, .ref 61), (1, .int (nI 3)), (2, .int (nI 1)), (3, .int (nI i))] [.int (nI 1)] u1 0 0 _
  refine S_if_neN d_PG_key_31 rfl (by omega) (fun _ => ?_) (fun c => by first | exact absurd c (by omega) | exact c.elim | exact absurd c (by decide) | exact absurd (by assumption) c | exact absurd c (by assumption) | exact absurd c (Int32.not_le.mpr (by assumption)))
  refine ST.lift (fun _ _ k => T_aload_n (v := .ref 61) d_PG_key_42 rfl (Or.inr ⟨_, rfl⟩) k) ?_
  refine S_getfield d_PG_key_43 fg_PG_34 (w61 _) rfl ?_
  refine ST.lift (fun _ _ k => T_iload_n d_PG_key_46 rfl k) ?_
  refine S_aaload (C0 := "PasswordGate$Session") d_PG_key_47 (by decide) (w264 _) rfl (vp_in_nI (by omega) (by omega)) ?_
  refine S_getfield d_PG_key_48 fg_PG_162 (w343 _) rfl ?_
  refine ST.lift (fun _ _ k => T_iload_n d_PG_key_51 rfl k) ?_
  refine S_aaload (C0 := "PasswordGate$Bytes") d_PG_key_52 (by decide) (w345 _) rfl (vp_in_nI (by omega) (by omega)) ?_
  refine S_getfield d_PG_key_53 fg_PG_93 (w365 _) rfl ?_
  refine ST.lift (fun _ _ k => T_iload_n d_PG_key_56 rfl k) ?_
  refine S_baload d_PG_key_57 a366 (vp_in_nI (by omega) (by omega)) (fun z6 hz6 => ?_)
  refine ST.lift (fun _ _ k => T_sipush (v := nI 255) d_PG_key_58 (by decide) k) ?_
  refine S_iandM 8 d_PG_key_61 (by decide) (by decide) (fun j7 hj7 => ?_)
  simp only [Nat.reducePow] at hj7
  exact S_ret d_PG_key_62 rfl rfl (by decide) (by decide) (hQ _ _ hv2 hm4 (fe0_u1.trans (congrArg nI (by omega))))
set_option maxRecDepth 100000 in
set_option maxHeartbeats 4000000 in
theorem c_PG_key_3_2_in (G : GX) (v : Nat → Int32) (i : Nat) (b_i : i < 2147483648) (k : Nat) (e63 : v 63 = nI k) (hk : i < k ∧ k ≤ 64) (hv : okv v) : CS G mi_PG_key [.ref 61, .int (nI 3), .int (nI 2), .int (nI i)] v (fun r v' => ∃ z : Int32, r = some (.int z) ∧ okv v' ∧ mdf [] v v' ∧ v' 63 = nI k) := by
  refine CS.of (by decide) (Nat.le_of_ble_eq_true rfl) ?_
  generalize hQe : (fun (r : Option Value) (v' : Nat → Int32) => ∃ z : Int32, r = some (.int z) ∧ okv v' ∧ mdf [] v v' ∧ v' 63 = nI k) = Q
  have hQ : ∀ (z : Int32) (u : Nat → Int32), okv u → mdf [] v u → u 63 = nI k → Q (some (.int z)) u := by rw [← hQe]; exact fun z u h1 h2 f0 => ⟨z, rfl, h1, h2, f0⟩
  clear hQe
  have hm : mdf [] v v := mdf.rf
  show ST G mi_PG_key 0 [(0, .ref 61), (1, .int (nI 3)), (2, .int (nI 2)), (3, .int (nI i))] [] v 0 0 Q
  refine ST.lift (fun _ _ k => T_iload_n d_PG_key_0 rfl k) ?_
  refine S_static (as := [.int (nI 3)]) (rest := []) d_PG_key_1 rfl (jw_PG_isSession.jo (by decide)) lm_PG_133 jt_PG_isSession rfl (Nat.le_of_ble_eq_true rfl) (by decide) (by decide) (c_PG_isSession G v 3 (by omega)) (fun r v' hq => ?_)
  rw [hq.1, hq.2]
  clear hq r v'
  show ST G mi_PG_key 4 [(0, .ref 61), (1, .int (nI 3)), (2, .int (nI 2)), (3, .int (nI i))] [.int (nI 1)] v 0 0 _
  refine S_if_eqN d_PG_key_4 rfl (by omega) (fun c => by first | exact absurd c (by omega) | exact c.elim | exact absurd c (by decide) | exact absurd (by assumption) c | exact absurd c (by assumption) | exact absurd c (Int32.not_le.mpr (by assumption))) (fun _ => ?_)
  refine ST.lift (fun _ _ k => T_iload_n d_PG_key_7 rfl k) ?_
  refine S_if_ltN d_PG_key_8 rfl (by omega) (fun c => by first | exact absurd c (by omega) | exact c.elim | exact absurd c (by decide) | exact absurd (by assumption) c | exact absurd c (by assumption) | exact absurd c (Int32.not_le.mpr (by assumption))) (fun _ => ?_)
  refine ST.lift (fun _ _ k => T_iload_n d_PG_key_11 rfl k) ?_
  refine ST.lift (fun _ _ k => T_iconst (v := nI 2) d_PG_key_12 (by decide) k) ?_
  refine S_icmp_gtN d_PG_key_13 rfl (by omega) (by omega) (fun c => by first | exact absurd c (by omega) | exact c.elim | exact absurd c (by decide) | exact absurd (by assumption) c | exact absurd c (by assumption) | exact absurd c (Int32.not_le.mpr (by assumption))) (fun _ => ?_)
  refine ST.lift (fun _ _ k => T_aload_n (v := .ref 61) d_PG_key_16 rfl (Or.inr ⟨_, rfl⟩) k) ?_
  refine S_getfield d_PG_key_17 fg_PG_34 (w61 _) rfl ?_
  refine ST.lift (fun _ _ k => T_iload_n d_PG_key_20 rfl k) ?_
  refine S_aaload (C0 := "PasswordGate$Session") d_PG_key_21 (by decide) (w264 _) rfl (vp_in_nI (by omega) (by omega)) ?_
  refine S_getfield d_PG_key_22 fg_PG_162 (w343 _) rfl ?_
  refine ST.lift (fun _ _ k => T_iload_n d_PG_key_25 rfl k) ?_
  refine S_aaload (C0 := "PasswordGate$Bytes") d_PG_key_26 (by decide) (w345 _) rfl (vp_in_nI (by omega) (by omega)) ?_
  refine ST.lift (fun _ _ k => T_iload_n d_PG_key_27 rfl k) ?_
  refine S_virtual (as := [.int (nI i)]) (rest := []) (b := 367) d_PG_key_28 rfl (jw_By_has.jo (by decide)) lm_PG_119 ji_By_has js_By_has (w367 _) rfl rfl rfl (Nat.le_of_ble_eq_true rfl) (by decide) (by decide) (c_By_has_in G v 367 368 64 63 ⟨w367, a368, by decide, u367_1, by decide, by decide⟩ i (by omega) k e63 (by omega) hv) (fun r u1 hq => ?_)
  obtain ⟨hr, hv2, hm3, fe0_u1⟩ := hq
  rw [hr]
  clear hr r
  have hm4 := hm.go hm3 (by intro i hi; simp only [List.mem_cons, List.not_mem_nil, or_false] at hi ⊢ <;> omega)
  have e5 : u1 63 = nI k := (hm3 63 (by decide)).trans e63
  show ST G mi_PG_key 31 [(0, .ref 61), (1, .int (nI 3)), (2, .int (nI 2)), (3, .int (nI i))] [.int (nI 1)] u1 0 0 _
  refine S_if_neN d_PG_key_31 rfl (by omega) (fun _ => ?_) (fun c => by first | exact absurd c (by omega) | exact c.elim | exact absurd c (by decide) | exact absurd (by assumption) c | exact absurd c (by assumption) | exact absurd c (Int32.not_le.mpr (by assumption)))
  refine ST.lift (fun _ _ k => T_aload_n (v := .ref 61) d_PG_key_42 rfl (Or.inr ⟨_, rfl⟩) k) ?_
  refine S_getfield d_PG_key_43 fg_PG_34 (w61 _) rfl ?_
  refine ST.lift (fun _ _ k => T_iload_n d_PG_key_46 rfl k) ?_
  refine S_aaload (C0 := "PasswordGate$Session") d_PG_key_47 (by decide) (w264 _) rfl (vp_in_nI (by omega) (by omega)) ?_
  refine S_getfield d_PG_key_48 fg_PG_162 (w343 _) rfl ?_
  refine ST.lift (fun _ _ k => T_iload_n d_PG_key_51 rfl k) ?_
  refine S_aaload (C0 := "PasswordGate$Bytes") d_PG_key_52 (by decide) (w345 _) rfl (vp_in_nI (by omega) (by omega)) ?_
  refine S_getfield d_PG_key_53 fg_PG_93 (w367 _) rfl ?_
  refine ST.lift (fun _ _ k => T_iload_n d_PG_key_56 rfl k) ?_
  refine S_baload d_PG_key_57 a368 (vp_in_nI (by omega) (by omega)) (fun z6 hz6 => ?_)
  refine ST.lift (fun _ _ k => T_sipush (v := nI 255) d_PG_key_58 (by decide) k) ?_
  refine S_iandM 8 d_PG_key_61 (by decide) (by decide) (fun j7 hj7 => ?_)
  simp only [Nat.reducePow] at hj7
  exact S_ret d_PG_key_62 rfl rfl (by decide) (by decide) (hQ _ _ hv2 hm4 (fe0_u1.trans (congrArg nI (by omega))))
set_option maxRecDepth 100000 in
set_option maxHeartbeats 4000000 in
theorem c_PG_result_in (G : GX) (v : Nat → Int32) (i : Nat) (b_i : i < 2147483648) (k : Nat) (e65 : v 65 = nI k) (hk : i < k ∧ k ≤ 64) (hv : okv v) : CS G mi_PG_result [.ref 61, .int (nI i)] v (fun r v' => ∃ z : Int32, r = some (.int z) ∧ okv v' ∧ mdf [] v v' ∧ v' 65 = nI k) := by
  refine CS.of (by decide) (Nat.le_of_ble_eq_true rfl) ?_
  generalize hQe : (fun (r : Option Value) (v' : Nat → Int32) => ∃ z : Int32, r = some (.int z) ∧ okv v' ∧ mdf [] v v' ∧ v' 65 = nI k) = Q
  have hQ : ∀ (z : Int32) (u : Nat → Int32), okv u → mdf [] v u → u 65 = nI k → Q (some (.int z)) u := by rw [← hQe]; exact fun z u h1 h2 f0 => ⟨z, rfl, h1, h2, f0⟩
  clear hQe
  have hm : mdf [] v v := mdf.rf
  show ST G mi_PG_result 0 [(0, .ref 61), (1, .int (nI i))] [] v 0 0 Q
  refine ST.lift (fun _ _ k => T_aload_n (v := .ref 61) d_PG_result_0 rfl (Or.inr ⟨_, rfl⟩) k) ?_
  refine S_getfield d_PG_result_1 fg_PG_46 (w61 _) rfl ?_
  refine ST.lift (fun _ _ k => T_iload_n d_PG_result_4 rfl k) ?_
  refine S_virtual (as := [.int (nI i)]) (rest := []) (b := 371) d_PG_result_5 rfl (jw_By_has.jo (by decide)) lm_PG_119 ji_By_has js_By_has (w371 _) rfl rfl rfl (Nat.le_of_ble_eq_true rfl) (by decide) (by decide) (c_By_has_in G v 371 372 64 65 ⟨w371, a372, by decide, u371_1, by decide, by decide⟩ i (by omega) k e65 (by omega) hv) (fun r u1 hq => ?_)
  obtain ⟨hr, hv2, hm3, fe0_u1⟩ := hq
  rw [hr]
  clear hr r
  have hm4 := hm.go hm3 (by intro i hi; simp only [List.mem_cons, List.not_mem_nil, or_false] at hi ⊢ <;> omega)
  have e5 : u1 65 = nI k := (hm3 65 (by decide)).trans e65
  show ST G mi_PG_result 8 [(0, .ref 61), (1, .int (nI i))] [.int (nI 1)] u1 0 0 _
  refine S_if_neN d_PG_result_8 rfl (by omega) (fun _ => ?_) (fun c => by first | exact absurd c (by omega) | exact c.elim | exact absurd c (by decide) | exact absurd (by assumption) c | exact absurd c (by assumption) | exact absurd c (Int32.not_le.mpr (by assumption)))
  refine ST.lift (fun _ _ k => T_aload_n (v := .ref 61) d_PG_result_19 rfl (Or.inr ⟨_, rfl⟩) k) ?_
  refine S_getfield d_PG_result_20 fg_PG_46 (w61 _) rfl ?_
  refine S_getfield d_PG_result_23 fg_PG_93 (w371 _) rfl ?_
  refine ST.lift (fun _ _ k => T_iload_n d_PG_result_26 rfl k) ?_
  refine S_baload d_PG_result_27 a372 (vp_in_nI (by omega) (by omega)) (fun z6 hz6 => ?_)
  refine ST.lift (fun _ _ k => T_sipush (v := nI 255) d_PG_result_28 (by decide) k) ?_
  refine S_iandM 8 d_PG_result_31 (by decide) (by decide) (fun j7 hj7 => ?_)
  simp only [Nat.reducePow] at hj7
  exact S_ret d_PG_result_32 rfl rfl (by decide) (by decide) (hQ _ _ hv2 hm4 (fe0_u1.trans (congrArg nI (by omega))))

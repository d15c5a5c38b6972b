set_option maxRecDepth 100000 in
set_option maxHeartbeats 4000000 in
theorem c_Mo_isWire_sneg (G : GX) (v : Nat → Int32) (x : Int32) (y : Int32) (z : Int32) (hx_s : x < 0) (hv : okv v) : CS G mi_Mo_isWire [.ref 373, .int x, .int y, .int z] v (fun r v' => r = some (.int (nI 0)) ∧ okv v' ∧ mdf [] v v') := by
  refine CS.of (by decide) (Nat.le_of_ble_eq_true rfl) ?_
  generalize hQe : (fun (r : Option Value) (v' : Nat → Int32) => r = some (.int (nI 0)) ∧ okv v' ∧ mdf [] v v') = Q
  have hQ : ∀ u, okv u → mdf [] v u → Q (some (.int (nI 0))) u := by rw [← hQe]; exact fun u h1 h2  => ⟨rfl, h1, h2⟩
  clear hQe
  have hm : mdf [] v v := mdf.rf
  show ST G mi_Mo_isWire 0 [(0, .ref 373), (1, .int x), (2, .int y), (3, .int z)] [] v 0 0 Q
  refine ST.lift (fun _ _ k => T_iload_n d_Mo_isWire_0 rfl k) ?_
  refine S_static (as := [.int x]) (rest := []) d_Mo_isWire_1 rfl (jw_Mo_isSession.jo (by decide)) lm_Mo_545 jt_Mo_isSession rfl (Nat.le_of_ble_eq_true rfl) (by decide) (by decide) (c_Mo_isSession_neg G v x hx_s) (fun r v' hq => ?_)
  rw [hq.1, hq.2]
  clear hq r v'
  show ST G mi_Mo_isWire 4 [(0, .ref 373), (1, .int x), (2, .int y), (3, .int z)] [.int (nI 0)] v 0 0 _
  refine S_if_eqN d_Mo_isWire_4 rfl (by omega) (fun _ => ?_) (fun c => by first | exact absurd c (by omega) | exact c.elim | exact absurd c (by decide) | exact absurd (by assumption) c | exact absurd c (by assumption) | exact absurd c (Int32.not_le.mpr (by assumption)))
  refine ST.lift (fun _ _ k => T_iconst (v := nI 0) d_Mo_isWire_11 (by decide) k) ?_
  refine S_topi (y := nI 0) (congrArg nI (by omega)) ?_
  exact S_ret d_Mo_isWire_12 rfl (nar_z (by omega)) (by decide) (by decide) (hQ _ hv hm)
set_option maxRecDepth 100000 in
set_option maxHeartbeats 4000000 in
theorem c_Mo_wire_sneg (G : GX) (v : Nat → Int32) (x : Int32) (y : Int32) (z : Int32) (hx_s : x < 0) (hv : okv v) : CS G mi_Mo_wire [.ref 373, .int x, .int y, .int z] v (fun r v' => r = some (.int (nI 0)) ∧ okv v' ∧ mdf [66] v v' ∧ v' 66 = nI 1) := by
  refine CS.of (by decide) (Nat.le_of_ble_eq_true rfl) ?_
  generalize hQe : (fun (r : Option Value) (v' : Nat → Int32) => r = some (.int (nI 0)) ∧ okv v' ∧ mdf [66] v v' ∧ v' 66 = nI 1) = Q
  have hQ : ∀ u, okv u → mdf [66] v u → u 66 = nI 1 → Q (some (.int (nI 0))) u := by rw [← hQe]; exact fun u h1 h2 f0 => ⟨rfl, h1, h2, f0⟩
  clear hQe
  have hm : mdf [66] v v := mdf.rf
  show ST G mi_Mo_wire 0 [(0, .ref 373), (1, .int x), (2, .int y), (3, .int z)] [] v 0 0 Q
  refine ST.lift (fun _ _ k => T_aload_n (v := .ref 373) d_Mo_wire_0 rfl (Or.inr ⟨_, rfl⟩) k) ?_
  refine ST.lift (fun _ _ k => T_iconst (v := nI 0) d_Mo_wire_1 (by decide) k) ?_
  refine S_putfield (v' := va_up v 66 (nI 0)) d_Mo_wire_2 (fp_Mo_316 _) (w373 _) (Nat.le_of_ble_eq_true rfl) ⟨rfl, rfl⟩ (u373_0 _ _) ?_
  have hv2 := hv.off (j := 66) (x := (nI 0)) (by decide)
  have hm3 := hm.go (mdf.up (v := v) (j := 66) (x := (nI 0))) (by intro i hi; simp only [List.mem_cons, List.not_mem_nil, or_false] at hi ⊢ <;> omega)
  have e_u1 : (va_up v 66 (nI 0)) 66 = (nI 0) := by simp [va_up]
  generalize va_up v 66 (nI 0) = u1 at hv2 hm3 e_u1 ⊢
  refine ST.lift (fun _ _ k => T_aload_n (v := .ref 373) d_Mo_wire_5 rfl (Or.inr ⟨_, rfl⟩) k) ?_
  refine ST.lift (fun _ _ k => T_iload_n d_Mo_wire_6 rfl k) ?_
  refine ST.lift (fun _ _ k => T_iload_n d_Mo_wire_7 rfl k) ?_
  refine ST.lift (fun _ _ k => T_iload_n d_Mo_wire_8 rfl k) ?_
  refine S_virtual (as := [.int x, .int y, .int z]) (rest := []) (b := 373) d_Mo_wire_9 rfl (jw_Mo_isWire.jo (by decide)) lm_Mo_595 ji_Mo_isWire js_Mo_isWire (w373 _) rfl rfl rfl (Nat.le_of_ble_eq_true rfl) (by decide) (by decide) (c_Mo_isWire_sneg G u1 x y z hx_s hv2) (fun r u4 hq => ?_)
  obtain ⟨hr, hv5, hm6⟩ := hq
  rw [hr]
  clear hr r
  have hm7 := hm3.go hm6 (by intro i hi; simp only [List.mem_cons, List.not_mem_nil, or_false] at hi ⊢ <;> omega)
  have e8 : u4 66 = nI 0 := (hm6 66 (by decide)).trans e_u1
  show ST G mi_Mo_wire 12 [(0, .ref 373), (1, .int x), (2, .int y), (3, .int z)] [.int (nI 0)] u4 0 0 _
  refine S_if_neN d_Mo_wire_12 rfl (by omega) (fun c => by first | exact absurd c (by omega) | exact c.elim | exact absurd c (by decide) | exact absurd (by assumption) c | exact absurd c (by assumption) | exact absurd c (Int32.not_le.mpr (by assumption))) (fun _ => ?_)
  refine ST.lift (fun _ _ k => T_aload_n (v := .ref 373) d_Mo_wire_15 rfl (Or.inr ⟨_, rfl⟩) k) ?_
  refine ST.lift (fun _ _ k => T_iconst (v := nI 1) d_Mo_wire_16 (by decide) k) ?_
  refine S_putfield (v' := va_up u4 66 (nI 1)) d_Mo_wire_17 (fp_Mo_316 _) (w373 _) (Nat.le_of_ble_eq_true rfl) ⟨rfl, rfl⟩ (u373_0 _ _) ?_
  have hv10 := hv5.off (j := 66) (x := (nI 1)) (by decide)
  have hm11 := hm7.go (mdf.up (v := u4) (j := 66) (x := (nI 1))) (by intro i hi; simp only [List.mem_cons, List.not_mem_nil, or_false] at hi ⊢ <;> omega)
  have e_u9 : (va_up u4 66 (nI 1)) 66 = (nI 1) := by simp [va_up]
  generalize va_up u4 66 (nI 1) = u9 at hv10 hm11 e_u9 ⊢
  refine ST.lift (fun _ _ k => T_iconst (v := nI 0) d_Mo_wire_20 (by decide) k) ?_
  refine S_topi (y := nI 0) (congrArg nI (by omega)) ?_
  exact S_ret d_Mo_wire_21 rfl rfl (by decide) (by decide) (hQ _ hv10 hm11 (e_u9.trans (congrArg nI (by omega))))
set_option maxRecDepth 100000 in
set_option maxHeartbeats 4000000 in
theorem c_Mo_tamper_sneg (G : GX) (v : Nat → Int32) (x : Int32) (y : Int32) (z : Int32) (mask : Int32) (hx_s : x < 0) (hv : okv v) : CS G mi_Mo_tamper [.ref 373, .int x, .int y, .int z, .int mask] v (fun r v' => r = some (.int (nI 0)) ∧ okv v' ∧ mdf [66] v v' ∧ v' 66 = nI 0) := by
  refine CS.of (by decide) (Nat.le_of_ble_eq_true rfl) ?_
  generalize hQe : (fun (r : Option Value) (v' : Nat → Int32) => r = some (.int (nI 0)) ∧ okv v' ∧ mdf [66] v v' ∧ v' 66 = nI 0) = Q
  have hQ : ∀ u, okv u → mdf [66] v u → u 66 = nI 0 → Q (some (.int (nI 0))) u := by rw [← hQe]; exact fun u h1 h2 f0 => ⟨rfl, h1, h2, f0⟩
  clear hQe
  have hm : mdf [66] v v := mdf.rf
  show ST G mi_Mo_tamper 0 [(0, .ref 373), (1, .int x), (2, .int y), (3, .int z), (4, .int mask)] [] v 0 0 Q
  refine ST.lift (fun _ _ k => T_aload_n (v := .ref 373) d_Mo_tamper_0 rfl (Or.inr ⟨_, rfl⟩) k) ?_
  refine ST.lift (fun _ _ k => T_iconst (v := nI 0) d_Mo_tamper_1 (by decide) k) ?_
  refine S_putfield (v' := va_up v 66 (nI 0)) d_Mo_tamper_2 (fp_Mo_316 _) (w373 _) (Nat.le_of_ble_eq_true rfl) ⟨rfl, rfl⟩ (u373_0 _ _) ?_
  have hv2 := hv.off (j := 66) (x := (nI 0)) (by decide)
  have hm3 := hm.go (mdf.up (v := v) (j := 66) (x := (nI 0))) (by intro i hi; simp only [List.mem_cons, List.not_mem_nil, or_false] at hi ⊢ <;> omega)
  have e_u1 : (va_up v 66 (nI 0)) 66 = (nI 0) := by simp [va_up]
  generalize va_up v 66 (nI 0) = u1 at hv2 hm3 e_u1 ⊢
  refine ST.lift (fun _ _ k => T_aload_n (v := .ref 373) d_Mo_tamper_5 rfl (Or.inr ⟨_, rfl⟩) k) ?_
  refine ST.lift (fun _ _ k => T_iload_n d_Mo_tamper_6 rfl k) ?_
  refine ST.lift (fun _ _ k => T_iload_n d_Mo_tamper_7 rfl k) ?_
  refine ST.lift (fun _ _ k => T_iload_n d_Mo_tamper_8 rfl k) ?_
  refine S_virtual (as := [.int x, .int y, .int z]) (rest := []) (b := 373) d_Mo_tamper_9 rfl (jw_Mo_isWire.jo (by decide)) lm_Mo_595 ji_Mo_isWire js_Mo_isWire (w373 _) rfl rfl rfl (Nat.le_of_ble_eq_true rfl) (by decide) (by decide) (c_Mo_isWire_sneg G u1 x y z hx_s hv2) (fun r u4 hq => ?_)
  obtain ⟨hr, hv5, hm6⟩ := hq
  rw [hr]
  clear hr r
  have hm7 := hm3.go hm6 (by intro i hi; simp only [List.mem_cons, List.not_mem_nil, or_false] at hi ⊢ <;> omega)
  have e8 : u4 66 = nI 0 := (hm6 66 (by decide)).trans e_u1
  show ST G mi_Mo_tamper 12 [(0, .ref 373), (1, .int x), (2, .int y), (3, .int z), (4, .int mask)] [.int (nI 0)] u4 0 0 _
  refine S_if_neN d_Mo_tamper_12 rfl (by omega) (fun c => by first | exact absurd c (by omega) | exact c.elim | exact absurd c (by decide) | exact absurd (by assumption) c | exact absurd c (by assumption) | exact absurd c (Int32.not_le.mpr (by assumption))) (fun _ => ?_)
  refine ST.lift (fun _ _ k => T_iconst (v := nI 0) d_Mo_tamper_15 (by decide) k) ?_
  refine S_topi (y := nI 0) (congrArg nI (by omega)) ?_
  exact S_ret d_Mo_tamper_16 rfl (nar_z (by omega)) (by decide) (by decide) (hQ _ hv5 hm7 (e8.trans (congrArg nI (by omega))))
set_option maxRecDepth 100000 in
set_option maxHeartbeats 4000000 in
theorem c_Mo_key_sneg (G : GX) (v : Nat → Int32) (x : Int32) (y : Int32) (z : Int32) (hx_s : x < 0) (hv : okv v) : CS G mi_Mo_key [.ref 373, .int x, .int y, .int z] v (fun r v' => r = some (.int (nI 0)) ∧ okv v' ∧ mdf [66] v v' ∧ v' 66 = nI 1) := by
  refine CS.of (by decide) (Nat.le_of_ble_eq_true rfl) ?_
  generalize hQe : (fun (r : Option Value) (v' : Nat → Int32) => r = some (.int (nI 0)) ∧ okv v' ∧ mdf [66] v v' ∧ v' 66 = nI 1) = Q
  have hQ : ∀ u, okv u → mdf [66] v u → u 66 = nI 1 → Q (some (.int (nI 0))) u := by rw [← hQe]; exact fun u h1 h2 f0 => ⟨rfl, h1, h2, f0⟩
  clear hQe
  have hm : mdf [66] v v := mdf.rf
  show ST G mi_Mo_key 0 [(0, .ref 373), (1, .int x), (2, .int y), (3, .int z)] [] v 0 0 Q
  refine ST.lift (fun _ _ k => T_aload_n (v := .ref 373) d_Mo_key_0 rfl (Or.inr ⟨_, rfl⟩) k) ?_
  refine ST.lift (fun _ _ k => T_iconst (v := nI 0) d_Mo_key_1 (by decide) k) ?_
  refine S_putfield (v' := va_up v 66 (nI 0)) d_Mo_key_2 (fp_Mo_316 _) (w373 _) (Nat.le_of_ble_eq_true rfl) ⟨rfl, rfl⟩ (u373_0 _ _) ?_
  have hv2 := hv.off (j := 66) (x := (nI 0)) (by decide)
  have hm3 := hm.go (mdf.up (v := v) (j := 66) (x := (nI 0))) (by intro i hi; simp only [List.mem_cons, List.not_mem_nil, or_false] at hi ⊢ <;> omega)
  have e_u1 : (va_up v 66 (nI 0)) 66 = (nI 0) := by simp [va_up]
  generalize va_up v 66 (nI 0) = u1 at hv2 hm3 e_u1 ⊢
  refine ST.lift (fun _ _ k => T_iload_n d_Mo_key_5 rfl k) ?_
  refine S_static (as := [.int x]) (rest := []) d_Mo_key_6 rfl (jw_Mo_isSession.jo (by decide)) lm_Mo_545 jt_Mo_isSession rfl (Nat.le_of_ble_eq_true rfl) (by decide) (by decide) (c_Mo_isSession_neg G u1 x hx_s) (fun r v' hq => ?_)
  rw [hq.1, hq.2]
  clear hq r v'
  show ST G mi_Mo_key 9 [(0, .ref 373), (1, .int x), (2, .int y), (3, .int z)] [.int (nI 0)] u1 0 0 _
  refine S_if_eqN d_Mo_key_9 rfl (by omega) (fun _ => ?_) (fun c => by first | exact absurd c (by omega) | exact c.elim | exact absurd c (by decide) | exact absurd (by assumption) c | exact absurd c (by assumption) | exact absurd c (Int32.not_le.mpr (by assumption)))
  refine ST.lift (fun _ _ k => T_iconst (v := nI 0) d_Mo_key_35 (by decide) k) ?_
  refine ST.lift (fun _ _ k => T_istore (L' := [(4, .int (nI 0)), (0, .ref 373), (1, .int x), (2, .int y), (3, .int z)]) d_Mo_key_36 (by decide) rfl k) ?_
  refine ST.lift (fun _ _ k => T_iload d_Mo_key_38 rfl k) ?_
  refine S_if_eqN d_Mo_key_40 rfl (by omega) (fun _ => ?_) (fun c => by first | exact absurd c (by omega) | exact c.elim | exact absurd c (by decide) | exact absurd (by assumption) c | exact absurd c (by assumption) | exact absurd c (Int32.not_le.mpr (by assumption)))
  refine ST.lift (fun _ _ k => T_iload d_Mo_key_59 rfl k) ?_
  refine S_if_eqN d_Mo_key_61 rfl (by omega) (fun _ => ?_) (fun c => by first | exact absurd c (by omega) | exact c.elim | exact absurd c (by decide) | exact absurd (by assumption) c | exact absurd c (by assumption) | exact absurd c (Int32.not_le.mpr (by assumption)))
  refine ST.lift (fun _ _ k => T_iload d_Mo_key_72 rfl k) ?_
  refine S_if_neN d_Mo_key_74 rfl (by omega) (fun c => by first | exact absurd c (by omega) | exact c.elim | exact absurd c (by decide) | exact absurd (by assumption) c | exact absurd c (by assumption) | exact absurd c (Int32.not_le.mpr (by assumption))) (fun _ => ?_)
  refine ST.lift (fun _ _ k => T_aload_n (v := .ref 373) d_Mo_key_77 rfl (Or.inr ⟨_, rfl⟩) k) ?_
  refine ST.lift (fun _ _ k => T_iconst (v := nI 1) d_Mo_key_78 (by decide) k) ?_
  refine S_putfield (v' := va_up u1 66 (nI 1)) d_Mo_key_79 (fp_Mo_316 _) (w373 _) (Nat.le_of_ble_eq_true rfl) ⟨rfl, rfl⟩ (u373_0 _ _) ?_
  have hv5 := hv2.off (j := 66) (x := (nI 1)) (by decide)
  have hm6 := hm3.go (mdf.up (v := u1) (j := 66) (x := (nI 1))) (by intro i hi; simp only [List.mem_cons, List.not_mem_nil, or_false] at hi ⊢ <;> omega)
  have e_u4 : (va_up u1 66 (nI 1)) 66 = (nI 1) := by simp [va_up]
  generalize va_up u1 66 (nI 1) = u4 at hv5 hm6 e_u4 ⊢
  refine ST.lift (fun _ _ k => T_iconst (v := nI 0) d_Mo_key_82 (by decide) k) ?_
  refine S_topi (y := nI 0) (congrArg nI (by omega)) ?_
  exact S_ret d_Mo_key_83 rfl rfl (by decide) (by decide) (hQ _ hv5 hm6 (e_u4.trans (congrArg nI (by omega))))
set_option maxRecDepth 100000 in
set_option maxHeartbeats 4000000 in
theorem c_Mo_isWire_sbig (G : GX) (v : Nat → Int32) (x : Int32) (y : Int32) (z : Int32) (h0_s : ¬ x < 0) (hx_s : nI 4 ≤ x) (hv : okv v) : CS G mi_Mo_isWire [.ref 373, .int x, .int y, .int z] v (fun r v' => r = some (.int (nI 0)) ∧ okv v' ∧ mdf [] v v') := by
  refine CS.of (by decide) (Nat.le_of_ble_eq_true rfl) ?_
  generalize hQe : (fun (r : Option Value) (v' : Nat → Int32) => r = some (.int (nI 0)) ∧ okv v' ∧ mdf [] v v') = Q
  have hQ : ∀ u, okv u → mdf [] v u → Q (some (.int (nI 0))) u := by rw [← hQe]; exact fun u h1 h2  => ⟨rfl, h1, h2⟩
  clear hQe
  have hm : mdf [] v v := mdf.rf
  show ST G mi_Mo_isWire 0 [(0, .ref 373), (1, .int x), (2, .int y), (3, .int z)] [] v 0 0 Q
  refine ST.lift (fun _ _ k => T_iload_n d_Mo_isWire_0 rfl k) ?_
  refine S_static (as := [.int x]) (rest := []) d_Mo_isWire_1 rfl (jw_Mo_isSession.jo (by decide)) lm_Mo_545 jt_Mo_isSession rfl (Nat.le_of_ble_eq_true rfl) (by decide) (by decide) (c_Mo_isSession_big G v x h0_s hx_s) (fun r v' hq => ?_)
  rw [hq.1, hq.2]
  clear hq r v'
  show ST G mi_Mo_isWire 4 [(0, .ref 373), (1, .int x), (2, .int y), (3, .int z)] [.int (nI 0)] v 0 0 _
  refine S_if_eqN d_Mo_isWire_4 rfl (by omega) (fun _ => ?_) (fun c => by first | exact absurd c (by omega) | exact c.elim | exact absurd c (by decide) | exact absurd (by assumption) c | exact absurd c (by assumption) | exact absurd c (Int32.not_le.mpr (by assumption)))
  refine ST.lift (fun _ _ k => T_iconst (v := nI 0) d_Mo_isWire_11 (by decide) k) ?_
  refine S_topi (y := nI 0) (congrArg nI (by omega)) ?_
  exact S_ret d_Mo_isWire_12 rfl (nar_z (by omega)) (by decide) (by decide) (hQ _ hv hm)
set_option maxRecDepth 100000 in
set_option maxHeartbeats 4000000 in
theorem c_Mo_wire_sbig (G : GX) (v : Nat → Int32) (x : Int32) (y : Int32) (z : Int32) (h0_s : ¬ x < 0) (hx_s : nI 4 ≤ x) (hv : okv v) : CS G mi_Mo_wire [.ref 373, .int x, .int y, .int z] v (fun r v' => r = some (.int (nI 0)) ∧ okv v' ∧ mdf [66] v v' ∧ v' 66 = nI 1) := by
  refine CS.of (by decide) (Nat.le_of_ble_eq_true rfl) ?_
  generalize hQe : (fun (r : Option Value) (v' : Nat → Int32) => r = some (.int (nI 0)) ∧ okv v' ∧ mdf [66] v v' ∧ v' 66 = nI 1) = Q
  have hQ : ∀ u, okv u → mdf [66] v u → u 66 = nI 1 → Q (some (.int (nI 0))) u := by rw [← hQe]; exact fun u h1 h2 f0 => ⟨rfl, h1, h2, f0⟩
  clear hQe
  have hm : mdf [66] v v := mdf.rf
  show ST G mi_Mo_wire 0 [(0, .ref 373), (1, .int x), (2, .int y), (3, .int z)] [] v 0 0 Q
  refine ST.lift (fun _ _ k => T_aload_n (v := .ref 373) d_Mo_wire_0 rfl (Or.inr ⟨_, rfl⟩) k) ?_
  refine ST.lift (fun _ _ k => T_iconst (v := nI 0) d_Mo_wire_1 (by decide) k) ?_
  refine S_putfield (v' := va_up v 66 (nI 0)) d_Mo_wire_2 (fp_Mo_316 _) (w373 _) (Nat.le_of_ble_eq_true rfl) ⟨rfl, rfl⟩ (u373_0 _ _) ?_
  have hv2 := hv.off (j := 66) (x := (nI 0)) (by decide)
  have hm3 := hm.go (mdf.up (v := v) (j := 66) (x := (nI 0))) (by intro i hi; simp only [List.mem_cons, List.not_mem_nil, or_false] at hi ⊢ <;> omega)
  have e_u1 : (va_up v 66 (nI 0)) 66 = (nI 0) := by simp [va_up]
  generalize va_up v 66 (nI 0) = u1 at hv2 hm3 e_u1 ⊢
  refine ST.lift (fun _ _ k => T_aload_n (v := .ref 373) d_Mo_wire_5 rfl (Or.inr ⟨_, rfl⟩) k) ?_
  refine ST.lift (fun _ _ k => T_iload_n d_Mo_wire_6 rfl k) ?_
  refine ST.lift (fun _ _ k => T_iload_n d_Mo_wire_7 rfl k) ?_
  refine ST.lift (fun _ _ k => T_iload_n d_Mo_wire_8 rfl k) ?_
  refine S_virtual (as := [.int x, .int y, .int z]) (rest := []) (b := 373) d_Mo_wire_9 rfl (jw_Mo_isWire.jo (by decide)) lm_Mo_595 ji_Mo_isWire js_Mo_isWire (w373 _) rfl rfl rfl (Nat.le_of_ble_eq_true rfl) (by decide) (by decide) (c_Mo_isWire_sbig G u1 x y z h0_s hx_s hv2) (fun r u4 hq => ?_)
  obtain ⟨hr, hv5, hm6⟩ := hq
  rw [hr]
  clear hr r
  have hm7 := hm3.go hm6 (by intro i hi; simp only [List.mem_cons, List.not_mem_nil, or_false] at hi ⊢ <;> omega)
  have e8 : u4 66 = nI 0 := (hm6 66 (by decide)).trans e_u1
  show ST G mi_Mo_wire 12 [(0, .ref 373), (1, .int x), (2, .int y), (3, .int z)] [.int (nI 0)] u4 0 0 _
  refine S_if_neN d_Mo_wire_12 rfl (by omega) (fun c => by first | exact absurd c (by omega) | exact c.elim | exact absurd c (by decide) | exact absurd (by assumption) c | exact absurd c (by assumption) | exact absurd c (Int32.not_le.mpr (by assumption))) (fun _ => ?_)
  refine ST.lift (fun _ _ k => T_aload_n (v := .ref 373) d_Mo_wire_15 rfl (Or.inr ⟨_, rfl⟩) k) ?_
  refine ST.lift (fun _ _ k => T_iconst (v := nI 1) d_Mo_wire_16 (by decide) k) ?_
  refine S_putfield (v' := va_up u4 66 (nI 1)) d_Mo_wire_17 (fp_Mo_316 _) (w373 _) (Nat.le_of_ble_eq_true rfl) ⟨rfl, rfl⟩ (u373_0 _ _) ?_
  have hv10 := hv5.off (j := 66) (x := (nI 1)) (by decide)
  have hm11 := hm7.go (mdf.up (v := u4) (j := 66) (x := (nI 1))) (by intro i hi; simp only [List.mem_cons, List.not_mem_nil, or_false] at hi ⊢ <;> omega)
  have e_u9 : (va_up u4 66 (nI 1)) 66 = (nI 1) := by simp [va_up]
  generalize va_up u4 66 (nI 1) = u9 at hv10 hm11 e_u9 ⊢
  refine ST.lift (fun _ _ k => T_iconst (v := nI 0) d_Mo_wire_20 (by decide) k) ?_
  refine S_topi (y := nI 0) (congrArg nI (by omega)) ?_
  exact S_ret d_Mo_wire_21 rfl rfl (by decide) (by decide) (hQ _ hv10 hm11 (e_u9.trans (congrArg nI (by omega))))
set_option maxRecDepth 100000 in
set_option maxHeartbeats 4000000 in
theorem c_Mo_tamper_sbig (G : GX) (v : Nat → Int32) (x : Int32) (y : Int32) (z : Int32) (mask : Int32) (h0_s : ¬ x < 0) (hx_s : nI 4 ≤ x) (hv : okv v) : CS G mi_Mo_tamper [.ref 373, .int x, .int y, .int z, .int mask] v (fun r v' => r = some (.int (nI 0)) ∧ okv v' ∧ mdf [66] v v' ∧ v' 66 = nI 0) := by
  refine CS.of (by decide) (Nat.le_of_ble_eq_true rfl) ?_
  generalize hQe : (fun (r : Option Value) (v' : Nat → Int32) => r = some (.int (nI 0)) ∧ okv v' ∧ mdf [66] v v' ∧ v' 66 = nI 0) = Q
  have hQ : ∀ u, okv u → mdf [66] v u → u 66 = nI 0 → Q (some (.int (nI 0))) u := by rw [← hQe]; exact fun u h1 h2 f0 => ⟨rfl, h1, h2, f0⟩
  clear hQe
  have hm : mdf [66] v v := mdf.rf
  show ST G mi_Mo_tamper 0 [(0, .ref 373), (1, .int x), (2, .int y), (3, .int z), (4, .int mask)] [] v 0 0 Q
  refine ST.lift (fun _ _ k => T_aload_n (v := .ref 373) d_Mo_tamper_0 rfl (Or.inr ⟨_, rfl⟩) k) ?_
  refine ST.lift (fun _ _ k => T_iconst (v := nI 0) d_Mo_tamper_1 (by decide) k) ?_
  refine S_putfield (v' := va_up v 66 (nI 0)) d_Mo_tamper_2 (fp_Mo_316 _) (w373 _) (Nat.le_of_ble_eq_true rfl) ⟨rfl, rfl⟩ (u373_0 _ _) ?_
  have hv2 := hv.off (j := 66) (x := (nI 0)) (by decide)
  have hm3 := hm.go (mdf.up (v := v) (j := 66) (x := (nI 0))) (by intro i hi; simp only [List.mem_cons, List.not_mem_nil, or_false] at hi ⊢ <;> omega)
  have e_u1 : (va_up v 66 (nI 0)) 66 = (nI 0) := by simp [va_up]
  generalize va_up v 66 (nI 0) = u1 at hv2 hm3 e_u1 ⊢
  refine ST.lift (fun _ _ k => T_aload_n (v := .ref 373) d_Mo_tamper_5 rfl (Or.inr ⟨_, rfl⟩) k) ?_
  refine ST.lift (fun _ _ k => T_iload_n d_Mo_tamper_6 rfl k) ?_
  refine ST.lift (fun _ _ k => T_iload_n d_Mo_tamper_7 rfl k) ?_
  refine ST.lift (fun _ _ k => T_iload_n d_Mo_tamper_8 rfl k) ?_
  refine S_virtual (as := [.int x, .int y, .int z]) (rest := []) (b := 373) d_Mo_tamper_9 rfl (jw_Mo_isWire.jo (by decide)) lm_Mo_595 ji_Mo_isWire js_Mo_isWire (w373 _) rfl rfl rfl (Nat.le_of_ble_eq_true rfl) (by decide) (by decide) (c_Mo_isWire_sbig G u1 x y z h0_s hx_s hv2) (fun r u4 hq => ?_)
  obtain ⟨hr, hv5, hm6⟩ := hq
  rw [hr]
  clear hr r
  have hm7 := hm3.go hm6 (by intro i hi; simp only [List.mem_cons, List.not_mem_nil, or_false] at hi ⊢ <;> omega)
  have e8 : u4 66 = nI 0 := (hm6 66 (by decide)).trans e_u1
  show ST G mi_Mo_tamper 12 [(0, .ref 373), (1, .int x), (2, .int y), (3, .int z), (4, .int mask)] [.int (nI 0)] u4 0 0 _
  refine S_if_neN d_Mo_tamper_12 rfl (by omega) (fun c => by first | exact absurd c (by omega) | exact c.elim | exact absurd c (by decide) | exact absurd (by assumption) c | exact absurd c (by assumption) | exact absurd c (Int32.not_le.mpr (by assumption))) (fun _ => ?_)
  refine ST.lift (fun _ _ k => T_iconst (v := nI 0) d_Mo_tamper_15 (by decide) k) ?_
  refine S_topi (y := nI 0) (congrArg nI (by omega)) ?_
  exact S_ret d_Mo_tamper_16 rfl (nar_z (by omega)) (by decide) (by decide) (hQ _ hv5 hm7 (e8.trans (congrArg nI (by omega))))
set_option maxRecDepth 100000 in
set_option maxHeartbeats 4000000 in
theorem c_Mo_key_sbig (G : GX) (v : Nat → Int32) (x : Int32) (y : Int32) (z : Int32) (h0_s : ¬ x < 0) (hx_s : nI 4 ≤ x) (hv : okv v) : CS G mi_Mo_key [.ref 373, .int x, .int y, .int z] v (fun r v' => r = some (.int (nI 0)) ∧ okv v' ∧ mdf [66] v v' ∧ v' 66 = nI 1) := by
  refine CS.of (by decide) (Nat.le_of_ble_eq_true rfl) ?_
  generalize hQe : (fun (r : Option Value) (v' : Nat → Int32) => r = some (.int (nI 0)) ∧ okv v' ∧ mdf [66] v v' ∧ v' 66 = nI 1) = Q
  have hQ : ∀ u, okv u → mdf [66] v u → u 66 = nI 1 → Q (some (.int (nI 0))) u := by rw [← hQe]; exact fun u h1 h2 f0 => ⟨rfl, h1, h2, f0⟩
  clear hQe
  have hm : mdf [66] v v := mdf.rf
  show ST G mi_Mo_key 0 [(0, .ref 373), (1, .int x), (2, .int y), (3, .int z)] [] v 0 0 Q
  refine ST.lift (fun _ _ k => T_aload_n (v := .ref 373) d_Mo_key_0 rfl (Or.inr ⟨_, rfl⟩) k) ?_
  refine ST.lift (fun _ _ k => T_iconst (v := nI 0) d_Mo_key_1 (by decide) k) ?_
  refine S_putfield (v' := va_up v 66 (nI 0)) d_Mo_key_2 (fp_Mo_316 _) (w373 _) (Nat.le_of_ble_eq_true rfl) ⟨rfl, rfl⟩ (u373_0 _ _) ?_
  have hv2 := hv.off (j := 66) (x := (nI 0)) (by decide)
  have hm3 := hm.go (mdf.up (v := v) (j := 66) (x := (nI 0))) (by intro i hi; simp only [List.mem_cons, List.not_mem_nil, or_false] at hi ⊢ <;> omega)
  have e_u1 : (va_up v 66 (nI 0)) 66 = (nI 0) := by simp [va_up]
  generalize va_up v 66 (nI 0) = u1 at hv2 hm3 e_u1 ⊢
  refine ST.lift (fun _ _ k => T_iload_n d_Mo_key_5 rfl k) ?_
  refine S_static (as := [.int x]) (rest := []) d_Mo_key_6 rfl (jw_Mo_isSession.jo (by decide)) lm_Mo_545 jt_Mo_isSession rfl (Nat.le_of_ble_eq_true rfl) (by decide) (by decide) (c_Mo_isSession_big G u1 x h0_s hx_s) (fun r v' hq => ?_)
  rw [hq.1, hq.2]
  clear hq r v'
  show ST G mi_Mo_key 9 [(0, .ref 373), (1, .int x), (2, .int y), (3, .int z)] [.int (nI 0)] u1 0 0 _
  refine S_if_eqN d_Mo_key_9 rfl (by omega) (fun _ => ?_) (fun c => by first | exact absurd c (by omega) | exact c.elim | exact absurd c (by decide) | exact absurd (by assumption) c | exact absurd c (by assumption) | exact absurd c (Int32.not_le.mpr (by assumption)))
  refine ST.lift (fun _ _ k => T_iconst (v := nI 0) d_Mo_key_35 (by decide) k) ?_
  refine ST.lift (fun _ _ k => T_istore (L' := [(4, .int (nI 0)), (0, .ref 373), (1, .int x), (2, .int y), (3, .int z)]) d_Mo_key_36 (by decide) rfl k) ?_
  refine ST.lift (fun _ _ k => T_iload d_Mo_key_38 rfl k) ?_
  refine S_if_eqN d_Mo_key_40 rfl (by omega) (fun _ => ?_) (fun c => by first | exact absurd c (by omega) | exact c.elim | exact absurd c (by decide) | exact absurd (by assumption) c | exact absurd c (by assumption) | exact absurd c (Int32.not_le.mpr (by assumption)))
  refine ST.lift (fun _ _ k => T_iload d_Mo_key_59 rfl k) ?_
  refine S_if_eqN d_Mo_key_61 rfl (by omega) (fun _ => ?_) (fun c => by first | exact absurd c (by omega) | exact c.elim | exact absurd c (by decide) | exact absurd (by assumption) c | exact absurd c (by assumption) | exact absurd c (Int32.not_le.mpr (by assumption)))
  refine ST.lift (fun _ _ k => T_iload d_Mo_key_72 rfl k) ?_
  refine S_if_neN d_Mo_key_74 rfl (by omega) (fun c => by first | exact absurd c (by omega) | exact c.elim | exact absurd c (by decide) | exact absurd (by assumption) c | exact absurd c (by assumption) | exact absurd c (Int32.not_le.mpr (by assumption))) (fun _ => ?_)
  refine ST.lift (fun _ _ k => T_aload_n (v := .ref 373) d_Mo_key_77 rfl (Or.inr ⟨_, rfl⟩) k) ?_
  refine ST.lift (fun _ _ k => T_iconst (v := nI 1) d_Mo_key_78 (by decide) k) ?_
  refine S_putfield (v' := va_up u1 66 (nI 1)) d_Mo_key_79 (fp_Mo_316 _) (w373 _) (Nat.le_of_ble_eq_true rfl) ⟨rfl, rfl⟩ (u373_0 _ _) ?_
  have hv5 := hv2.off (j := 66) (x := (nI 1)) (by decide)
  have hm6 := hm3.go (mdf.up (v := u1) (j := 66) (x := (nI 1))) (by intro i hi; simp only [List.mem_cons, List.not_mem_nil, or_false] at hi ⊢ <;> omega)
  have e_u4 : (va_up u1 66 (nI 1)) 66 = (nI 1) := by simp [va_up]
  generalize va_up u1 66 (nI 1) = u4 at hv5 hm6 e_u4 ⊢
  refine ST.lift (fun _ _ k => T_iconst (v := nI 0) d_Mo_key_82 (by decide) k) ?_
  refine S_topi (y := nI 0) (congrArg nI (by omega)) ?_
  exact S_ret d_Mo_key_83 rfl rfl (by decide) (by decide) (hQ _ hv5 hm6 (e_u4.trans (congrArg nI (by omega))))
set_option maxRecDepth 100000 in
set_option maxHeartbeats 4000000 in
theorem c_Mo_isWire_0_neg (G : GX) (v : Nat → Int32) (y : Int32) (z : Int32) (hz_n : z < 0) (hv : okv v) : CS G mi_Mo_isWire [.ref 373, .int (nI 0), .int y, .int z] v (fun r v' => r = some (.int (nI 0)) ∧ okv v' ∧ mdf [] v v') := by
  refine CS.of (by decide) (Nat.le_of_ble_eq_true rfl) ?_
  generalize hQe : (fun (r : Option Value) (v' : Nat → Int32) => r = some (.int (nI 0)) ∧ okv v' ∧ mdf [] v v') = Q
  have hQ : ∀ u, okv u → mdf [] v u → Q (some (.int (nI 0))) u := by rw [← hQe]; exact fun u h1 h2  => ⟨rfl, h1, h2⟩
  clear hQe
  have hm : mdf [] v v := mdf.rf
  show ST G mi_Mo_isWire 0 [(0, .ref 373), (1, .int (nI 0)), (2, .int y), (3, .int z)] [] v 0 0 Q
  refine ST.lift (fun _ _ k => T_iload_n d_Mo_isWire_0 rfl k) ?_
  refine S_static (as := [.int (nI 0)]) (rest := []) d_Mo_isWire_1 rfl (jw_Mo_isSession.jo (by decide)) lm_Mo_545 jt_Mo_isSession rfl (Nat.le_of_ble_eq_true rfl) (by decide) (by decide) (c_Mo_isSession G v 0 (by omega)) (fun r v' hq => ?_)
  rw [hq.1, hq.2]
  clear hq r v'
  show ST G mi_Mo_isWire 4 [(0, .ref 373), (1, .int (nI 0)), (2, .int y), (3, .int z)] [.int (nI 1)] v 0 0 _
  refine S_if_eqN d_Mo_isWire_4 rfl (by omega) (fun c => by first | exact absurd c (by omega) | exact c.elim | exact absurd c (by decide) | exact absurd (by assumption) c | exact absurd c (by assumption) | exact absurd c (Int32.not_le.mpr (by assumption))) (fun _ => ?_)
  refine ST.lift (fun _ _ k => T_iload_n d_Mo_isWire_7 rfl k) ?_
  refine S_if_ge d_Mo_isWire_8 rfl (fun c => by first | exact absurd c (by omega) | exact c.elim | exact absurd c (by decide) | exact absurd (by assumption) c | exact absurd c (by assumption) | exact absurd c (Int32.not_le.mpr (by assumption))) (fun _ => ?_)
  refine ST.lift (fun _ _ k => T_iconst (v := nI 0) d_Mo_isWire_11 (by decide) k) ?_
  refine S_topi (y := nI 0) (congrArg nI (by omega)) ?_
  exact S_ret d_Mo_isWire_12 rfl (nar_z (by omega)) (by decide) (by decide) (hQ _ hv hm)
set_option maxRecDepth 100000 in
set_option maxHeartbeats 4000000 in
theorem c_Mo_wire_0_neg (G : GX) (v : Nat → Int32) (y : Int32) (z : Int32) (hz_n : z < 0) (hv : okv v) : CS G mi_Mo_wire [.ref 373, .int (nI 0), .int y, .int z] v (fun r v' => r = some (.int (nI 0)) ∧ okv v' ∧ mdf [66] v v' ∧ v' 66 = nI 1) := by
  refine CS.of (by decide) (Nat.le_of_ble_eq_true rfl) ?_
  generalize hQe : (fun (r : Option Value) (v' : Nat → Int32) => r = some (.int (nI 0)) ∧ okv v' ∧ mdf [66] v v' ∧ v' 66 = nI 1) = Q
  have hQ : ∀ u, okv u → mdf [66] v u → u 66 = nI 1 → Q (some (.int (nI 0))) u := by rw [← hQe]; exact fun u h1 h2 f0 => ⟨rfl, h1, h2, f0⟩
  clear hQe
  have hm : mdf [66] v v := mdf.rf
  show ST G mi_Mo_wire 0 [(0, .ref 373), (1, .int (nI 0)), (2, .int y), (3, .int z)] [] v 0 0 Q
  refine ST.lift (fun _ _ k => T_aload_n (v := .ref 373) d_Mo_wire_0 rfl (Or.inr ⟨_, rfl⟩) k) ?_
  refine ST.lift (fun _ _ k => T_iconst (v := nI 0) d_Mo_wire_1 (by decide) k) ?_
  refine S_putfield (v' := va_up v 66 (nI 0)) d_Mo_wire_2 (fp_Mo_316 _) (w373 _) (Nat.le_of_ble_eq_true rfl) ⟨rfl, rfl⟩ (u373_0 _ _) ?_
  have hv2 := hv.off (j := 66) (x := (nI 0)) (by decide)
  have hm3 := hm.go (mdf.up (v := v) (j := 66) (x := (nI 0))) (by intro i hi; simp only [List.mem_cons, List.not_mem_nil, or_false] at hi ⊢ <;> omega)
  have e_u1 : (va_up v 66 (nI 0)) 66 = (nI 0) := by simp [va_up]
  generalize va_up v 66 (nI 0) = u1 at hv2 hm3 e_u1 ⊢
  refine ST.lift (fun _ _ k => T_aload_n (v := .ref 373) d_Mo_wire_5 rfl (Or.inr ⟨_, rfl⟩) k) ?_
  refine ST.lift (fun _ _ k => T_iload_n d_Mo_wire_6 rfl k) ?_
  refine ST.lift (fun _ _ k => T_iload_n d_Mo_wire_7 rfl k) ?_
  refine ST.lift (fun _ _ k => T_iload_n d_Mo_wire_8 rfl k) ?_
  refine S_virtual (as := [.int (nI 0), .int y, .int z]) (rest := []) (b := 373) d_Mo_wire_9 rfl (jw_Mo_isWire.jo (by decide)) lm_Mo_595 ji_Mo_isWire js_Mo_isWire (w373 _) rfl rfl rfl (Nat.le_of_ble_eq_true rfl) (by decide) (by decide) (c_Mo_isWire_0_neg G u1 y z hz_n hv2) (fun r u4 hq => ?_)
  obtain ⟨hr, hv5, hm6⟩ := hq
  rw [hr]
  clear hr r
  have hm7 := hm3.go hm6 (by intro i hi; simp only [List.mem_cons, List.not_mem_nil, or_false] at hi ⊢ <;> omega)
  have e8 : u4 66 = nI 0 := (hm6 66 (by decide)).trans e_u1
  show ST G mi_Mo_wire 12 [(0, .ref 373), (1, .int (nI 0)), (2, .int y), (3, .int z)] [.int (nI 0)] u4 0 0 _
  refine S_if_neN d_Mo_wire_12 rfl (by omega) (fun c => by first | exact absurd c (by omega) | exact c.elim | exact absurd c (by decide) | exact absurd (by assumption) c | exact absurd c (by assumption) | exact absurd c (Int32.not_le.mpr (by assumption))) (fun _ => ?_)
  refine ST.lift (fun _ _ k => T_aload_n (v := .ref 373) d_Mo_wire_15 rfl (Or.inr ⟨_, rfl⟩) k) ?_
  refine ST.lift (fun _ _ k => T_iconst (v := nI 1) d_Mo_wire_16 (by decide) k) ?_
  refine S_putfield (v' := va_up u4 66 (nI 1)) d_Mo_wire_17 (fp_Mo_316 _) (w373 _) (Nat.le_of_ble_eq_true rfl) ⟨rfl, rfl⟩ (u373_0 _ _) ?_
  have hv10 := hv5.off (j := 66) (x := (nI 1)) (by decide)
  have hm11 := hm7.go (mdf.up (v := u4) (j := 66) (x := (nI 1))) (by intro i hi; simp only [List.mem_cons, List.not_mem_nil, or_false] at hi ⊢ <;> omega)
  have e_u9 : (va_up u4 66 (nI 1)) 66 = (nI 1) := by simp [va_up]
  generalize va_up u4 66 (nI 1) = u9 at hv10 hm11 e_u9 ⊢
  refine ST.lift (fun _ _ k => T_iconst (v := nI 0) d_Mo_wire_20 (by decide) k) ?_
  refine S_topi (y := nI 0) (congrArg nI (by omega)) ?_
  exact S_ret d_Mo_wire_21 rfl rfl (by decide) (by decide) (hQ _ hv10 hm11 (e_u9.trans (congrArg nI (by omega))))
set_option maxRecDepth 100000 in
set_option maxHeartbeats 4000000 in
theorem c_Mo_tamper_0_neg (G : GX) (v : Nat → Int32) (y : Int32) (z : Int32) (mask : Int32) (hz_n : z < 0) (hv : okv v) : CS G mi_Mo_tamper [.ref 373, .int (nI 0), .int y, .int z, .int mask] v (fun r v' => r = some (.int (nI 0)) ∧ okv v' ∧ mdf [66] v v' ∧ v' 66 = nI 0) := by
  refine CS.of (by decide) (Nat.le_of_ble_eq_true rfl) ?_
  generalize hQe : (fun (r : Option Value) (v' : Nat → Int32) => r = some (.int (nI 0)) ∧ okv v' ∧ mdf [66] v v' ∧ v' 66 = nI 0) = Q
  have hQ : ∀ u, okv u → mdf [66] v u → u 66 = nI 0 → Q (some (.int (nI 0))) u := by rw [← hQe]; exact fun u h1 h2 f0 => ⟨rfl, h1, h2, f0⟩
  clear hQe
  have hm : mdf [66] v v := mdf.rf
  show ST G mi_Mo_tamper 0 [(0, .ref 373), (1, .int (nI 0)), (2, .int y), (3, .int z), (4, .int mask)] [] v 0 0 Q
  refine ST.lift (fun _ _ k => T_aload_n (v := .ref 373) d_Mo_tamper_0 rfl (Or.inr ⟨_, rfl⟩) k) ?_
  refine ST.lift (fun _ _ k => T_iconst (v := nI 0) d_Mo_tamper_1 (by decide) k) ?_
  refine S_putfield (v' := va_up v 66 (nI 0)) d_Mo_tamper_2 (fp_Mo_316 _) (w373 _) (Nat.le_of_ble_eq_true rfl) ⟨rfl, rfl⟩ (u373_0 _ _) ?_
  have hv2 := hv.off (j := 66) (x := (nI 0)) (by decide)
  have hm3 := hm.go (mdf.up (v := v) (j := 66) (x := (nI 0))) (by intro i hi; simp only [List.mem_cons, List.not_mem_nil, or_false] at hi ⊢ <;> omega)
  have e_u1 : (va_up v 66 (nI 0)) 66 = (nI 0) := by simp [va_up]
  generalize va_up v 66 (nI 0) = u1 at hv2 hm3 e_u1 ⊢
  refine ST.lift (fun _ _ k => T_aload_n (v := .ref 373) d_Mo_tamper_5 rfl (Or.inr ⟨_, rfl⟩) k) ?_
  refine ST.lift (fun _ _ k => T_iload_n d_Mo_tamper_6 rfl k) ?_
  refine ST.lift (fun _ _ k => T_iload_n d_Mo_tamper_7 rfl k) ?_
  refine ST.lift (fun _ _ k => T_iload_n d_Mo_tamper_8 rfl k) ?_
  refine S_virtual (as := [.int (nI 0), .int y, .int z]) (rest := []) (b := 373) d_Mo_tamper_9 rfl (jw_Mo_isWire.jo (by decide)) lm_Mo_595 ji_Mo_isWire js_Mo_isWire (w373 _) rfl rfl rfl (Nat.le_of_ble_eq_true rfl) (by decide) (by decide) (c_Mo_isWire_0_neg G u1 y z hz_n hv2) (fun r u4 hq => ?_)
  obtain ⟨hr, hv5, hm6⟩ := hq
  rw [hr]
  clear hr r
  have hm7 := hm3.go hm6 (by intro i hi; simp only [List.mem_cons, List.not_mem_nil, or_false] at hi ⊢ <;> omega)
  have e8 : u4 66 = nI 0 := (hm6 66 (by decide)).trans e_u1
  show ST G mi_Mo_tamper 12 [(0, .ref 373), (1, .int (nI 0)), (2, .int y), (3, .int z), (4, .int mask)] [.int (nI 0)] u4 0 0 _
  refine S_if_neN d_Mo_tamper_12 rfl (by omega) (fun c => by first | exact absurd c (by omega) | exact c.elim | exact absurd c (by decide) | exact absurd (by assumption) c | exact absurd c (by assumption) | exact absurd c (Int32.not_le.mpr (by assumption))) (fun _ => ?_)
  refine ST.lift (fun _ _ k => T_iconst (v := nI 0) d_Mo_tamper_15 (by decide) k) ?_
  refine S_topi (y := nI 0) (congrArg nI (by omega)) ?_
  exact S_ret d_Mo_tamper_16 rfl (nar_z (by omega)) (by decide) (by decide) (hQ _ hv5 hm7 (e8.trans (congrArg nI (by omega))))
set_option maxRecDepth 100000 in
set_option maxHeartbeats 4000000 in
theorem c_Mo_isWire_0_oth (G : GX) (v : Nat → Int32) (y : Int32) (i : Nat) (b_i : i < 2147483648) (h1_m : ¬ y = nI 1) (h2_m : ¬ y = nI 2) (h3_m : ¬ y = nI 3) (hv : okv v) : CS G mi_Mo_isWire [.ref 373, .int (nI 0), .int y, .int (nI i)] v (fun r v' => r = some (.int (nI 0)) ∧ okv v' ∧ mdf [] v v') := by
  refine CS.of (by decide) (Nat.le_of_ble_eq_true rfl) ?_
  generalize hQe : (fun (r : Option Value) (v' : Nat → Int32) => r = some (.int (nI 0)) ∧ okv v' ∧ mdf [] v v') = Q
  have hQ : ∀ u, okv u → mdf [] v u → Q (some (.int (nI 0))) u := by rw [← hQe]; exact fun u h1 h2  => ⟨rfl, h1, h2⟩
  clear hQe
  have hm : mdf [] v v := mdf.rf
  show ST G mi_Mo_isWire 0 [(0, .ref 373), (1, .int (nI 0)), (2, .int y), (3, .int (nI i))] [] v 0 0 Q
  refine ST.lift (fun _ _ k => T_iload_n d_Mo_isWire_0 rfl k) ?_
  refine S_static (as := [.int (nI 0)]) (rest := []) d_Mo_isWire_1 rfl (jw_Mo_isSession.jo (by decide)) lm_Mo_545 jt_Mo_isSession rfl (Nat.le_of_ble_eq_true rfl) (by decide) (by decide) (c_Mo_isSession G v 0 (by omega)) (fun r v' hq => ?_)
  rw [hq.1, hq.2]
  clear hq r v'
  show ST G mi_Mo_isWire 4 [(0, .ref 373), (1, .int (nI 0)), (2, .int y), (3, .int (nI i))] [.int (nI 1)] v 0 0 _
  refine S_if_eqN d_Mo_isWire_4 rfl (by omega) (fun c => by first | exact absurd c (by omega) | exact c.elim | exact absurd c (by decide) | exact absurd (by assumption) c | exact absurd c (by assumption) | exact absurd c (Int32.not_le.mpr (by assumption))) (fun _ => ?_)
  refine ST.lift (fun _ _ k => T_iload_n d_Mo_isWire_7 rfl k) ?_
  refine S_if_geN d_Mo_isWire_8 rfl (by omega) (fun _ => ?_) (fun c => by first | exact absurd c (by omega) | exact c.elim | exact absurd c (by decide) | exact absurd (by assumption) c | exact absurd c (by assumption) | exact absurd c (Int32.not_le.mpr (by assumption)))
  refine ST.lift (fun _ _ k => T_iload_n d_Mo_isWire_13 rfl k) ?_
  refine ST.lift (fun _ _ k => T_iconst (v := nI 1) d_Mo_isWire_14 (by decide) k) ?_
  refine S_icmp_ne d_Mo_isWire_15 rfl (fun _ => ?_) (fun c => by first | exact absurd c (by omega) | exact c.elim | exact absurd c (by decide) | exact absurd (by assumption) c | exact absurd c (by assumption) | exact absurd c (Int32.not_le.mpr (by assumption)))
  refine ST.lift (fun _ _ k => T_iload_n d_Mo_isWire_39 rfl k) ?_
  refine ST.lift (fun _ _ k => T_iconst (v := nI 2) d_Mo_isWire_40 (by decide) k) ?_
  refine S_icmp_ne d_Mo_isWire_41 rfl (fun _ => ?_) (fun c => by first | exact absurd c (by omega) | exact c.elim | exact absurd c (by decide) | exact absurd (by assumption) c | exact absurd c (by assumption) | exact absurd c (Int32.not_le.mpr (by assumption)))
  refine ST.lift (fun _ _ k => T_iload_n d_Mo_isWire_66 rfl k) ?_
  refine ST.lift (fun _ _ k => T_iconst (v := nI 3) d_Mo_isWire_67 (by decide) k) ?_
  refine S_icmp_ne d_Mo_isWire_68 rfl (fun _ => ?_) (fun c => by first | exact absurd c (by omega) | exact c.elim | exact absurd c (by decide) | exact absurd (by assumption) c | exact absurd c (by assumption) | exact absurd c (Int32.not_le.mpr (by assumption)))
  refine ST.lift (fun _ _ k => T_iconst (v := nI 0) d_Mo_isWire_90 (by decide) k) ?_
  refine S_topi (y := nI 0) (congrArg nI (by omega)) ?_
  exact S_ret d_Mo_isWire_91 rfl (nar_z (by omega)) (by decide) (by decide) (hQ _ hv hm)
set_option maxRecDepth 100000 in
set_option maxHeartbeats 4000000 in
theorem c_Mo_wire_0_oth (G : GX) (v : Nat → Int32) (y : Int32) (i : Nat) (b_i : i < 2147483648) (h1_m : ¬ y = nI 1) (h2_m : ¬ y = nI 2) (h3_m : ¬ y = nI 3) (hv : okv v) : CS G mi_Mo_wire [.ref 373, .int (nI 0), .int y, .int (nI i)] v (fun r v' => r = some (.int (nI 0)) ∧ okv v' ∧ mdf [66] v v' ∧ v' 66 = nI 1) := by
  refine CS.of (by decide) (Nat.le_of_ble_eq_true rfl) ?_
  generalize hQe : (fun (r : Option Value) (v' : Nat → Int32) => r = some (.int (nI 0)) ∧ okv v' ∧ mdf [66] v v' ∧ v' 66 = nI 1) = Q
  have hQ : ∀ u, okv u → mdf [66] v u → u 66 = nI 1 → Q (some (.int (nI 0))) u := by rw [← hQe]; exact fun u h1 h2 f0 => ⟨rfl, h1, h2, f0⟩
  clear hQe
  have hm : mdf [66] v v := mdf.rf
  show ST G mi_Mo_wire 0 [(0, .ref 373), (1, .int (nI 0)), (2, .int y), (3, .int (nI i))] [] v 0 0 Q
  refine ST.lift (fun _ _ k => T_aload_n (v := .ref 373) d_Mo_wire_0 rfl (Or.inr ⟨_, rfl⟩) k) ?_
  refine ST.lift (fun _ _ k => T_iconst (v := nI 0) d_Mo_wire_1 (by decide) k) ?_
  refine S_putfield (v' := va_up v 66 (nI 0)) d_Mo_wire_2 (fp_Mo_316 _) (w373 _) (Nat.le_of_ble_eq_true rfl) ⟨rfl, rfl⟩ (u373_0 _ _) ?_
  have hv2 := hv.off (j := 66) (x := (nI 0)) (by decide)
  have hm3 := hm.go (mdf.up (v := v) (j := 66) (x := (nI 0))) (by intro i hi; simp only [List.mem_cons, List.not_mem_nil, or_false] at hi ⊢ <;> omega)
  have e_u1 : (va_up v 66 (nI 0)) 66 = (nI 0) := by simp [va_up]
  generalize va_up v 66 (nI 0) = u1 at hv2 hm3 e_u1 ⊢
  refine ST.lift (fun _ _ k => T_aload_n (v := .ref 373) d_Mo_wire_5 rfl (Or.inr ⟨_, rfl⟩) k) ?_
  refine ST.lift (fun _ _ k => T_iload_n d_Mo_wire_6 rfl k) ?_
  refine ST.lift (fun _ _ k => T_iload_n d_Mo_wire_7 rfl k) ?_
  refine ST.lift (fun _ _ k => T_iload_n d_Mo_wire_8 rfl k) ?_
  refine S_virtual (as := [.int (nI 0), .int y, .int (nI i)]) (rest := []) (b := 373) d_Mo_wire_9 rfl (jw_Mo_isWire.jo (by decide)) lm_Mo_595 ji_Mo_isWire js_Mo_isWire (w373 _) rfl rfl rfl (Nat.le_of_ble_eq_true rfl) (by decide) (by decide) (c_Mo_isWire_0_oth G u1 y i (by omega) h1_m h2_m h3_m hv2) (fun r u4 hq => ?_)
  obtain ⟨hr, hv5, hm6⟩ := hq
  rw [hr]
  clear hr r
  have hm7 := hm3.go hm6 (by intro i hi; simp only [List.mem_cons, List.not_mem_nil, or_false] at hi ⊢ <;> omega)
  have e8 : u4 66 = nI 0 := (hm6 66 (by decide)).trans e_u1
  show ST G mi_Mo_wire 12 [(0, .ref 373), (1, .int (nI 0)), (2, .int y), (3, .int (nI i))] [.int (nI 0)] u4 0 0 _
  refine S_if_neN d_Mo_wire_12 rfl (by omega) (fun c => by first | exact absurd c (by omega) | exact c.elim | exact absurd c (by decide) | exact absurd (by assumption) c | exact absurd c (by assumption) | exact absurd c (Int32.not_le.mpr (by assumption))) (fun _ => ?_)
  refine ST.lift (fun _ _ k => T_aload_n (v := .ref 373) d_Mo_wire_15 rfl (Or.inr ⟨_, rfl⟩) k) ?_
  refine ST.lift (fun _ _ k => T_iconst (v := nI 1) d_Mo_wire_16 (by decide) k) ?_
  refine S_putfield (v' := va_up u4 66 (nI 1)) d_Mo_wire_17 (fp_Mo_316 _) (w373 _) (Nat.le_of_ble_eq_true rfl) ⟨rfl, rfl⟩ (u373_0 _ _) ?_
  have hv10 := hv5.off (j := 66) (x := (nI 1)) (by decide)
  have hm11 := hm7.go (mdf.up (v := u4) (j := 66) (x := (nI 1))) (by intro i hi; simp only [List.mem_cons, List.not_mem_nil, or_false] at hi ⊢ <;> omega)
  have e_u9 : (va_up u4 66 (nI 1)) 66 = (nI 1) := by simp [va_up]
  generalize va_up u4 66 (nI 1) = u9 at hv10 hm11 e_u9 ⊢
  refine ST.lift (fun _ _ k => T_iconst (v := nI 0) d_Mo_wire_20 (by decide) k) ?_
  refine S_topi (y := nI 0) (congrArg nI (by omega)) ?_
  exact S_ret d_Mo_wire_21 rfl rfl (by decide) (by decide) (hQ _ hv10 hm11 (e_u9.trans (congrArg nI (by omega))))
set_option maxRecDepth 100000 in
set_option maxHeartbeats 4000000 in
theorem c_Mo_tamper_0_oth (G : GX) (v : Nat → Int32) (y : Int32) (i : Nat) (b_i : i < 2147483648) (mask : Int32) (h1_m : ¬ y = nI 1) (h2_m : ¬ y = nI 2) (h3_m : ¬ y = nI 3) (hv : okv v) : CS G mi_Mo_tamper [.ref 373, .int (nI 0), .int y, .int (nI i), .int mask] v (fun r v' => r = some (.int (nI 0)) ∧ okv v' ∧ mdf [66] v v' ∧ v' 66 = nI 0) := by
  refine CS.of (by decide) (Nat.le_of_ble_eq_true rfl) ?_
  generalize hQe : (fun (r : Option Value) (v' : Nat → Int32) => r = some (.int (nI 0)) ∧ okv v' ∧ mdf [66] v v' ∧ v' 66 = nI 0) = Q
  have hQ : ∀ u, okv u → mdf [66] v u → u 66 = nI 0 → Q (some (.int (nI 0))) u := by rw [← hQe]; exact fun u h1 h2 f0 => ⟨rfl, h1, h2, f0⟩
  clear hQe
  have hm : mdf [66] v v := mdf.rf
  show ST G mi_Mo_tamper 0 [(0, .ref 373), (1, .int (nI 0)), (2, .int y), (3, .int (nI i)), (4, .int mask)] [] v 0 0 Q
  refine ST.lift (fun _ _ k => T_aload_n (v := .ref 373) d_Mo_tamper_0 rfl (Or.inr ⟨_, rfl⟩) k) ?_
  refine ST.lift (fun _ _ k => T_iconst (v := nI 0) d_Mo_tamper_1 (by decide) k) ?_
  refine S_putfield (v' := va_up v 66 (nI 0)) d_Mo_tamper_2 (fp_Mo_316 _) (w373 _) (Nat.le_of_ble_eq_true rfl) ⟨rfl, rfl⟩ (u373_0 _ _) ?_
  have hv2 := hv.off (j := 66) (x := (nI 0)) (by decide)
  have hm3 := hm.go (mdf.up (v := v) (j := 66) (x := (nI 0))) (by intro i hi; simp only [List.mem_cons, List.not_mem_nil, or_false] at hi ⊢ <;> omega)
  have e_u1 : (va_up v 66 (nI 0)) 66 = (nI 0) := by simp [va_up]
  generalize va_up v 66 (nI 0) = u1 at hv2 hm3 e_u1 ⊢
  refine ST.lift (fun _ _ k => T_aload_n (v := .ref 373) d_Mo_tamper_5 rfl (Or.inr ⟨_, rfl⟩) k) ?_
  refine ST.lift (fun _ _ k => T_iload_n d_Mo_tamper_6 rfl k) ?_
  refine ST.lift (fun _ _ k => T_iload_n d_Mo_tamper_7 rfl k) ?_
  refine ST.lift (fun _ _ k => T_iload_n d_Mo_tamper_8 rfl k) ?_
  refine S_virtual (as := [.int (nI 0), .int y, .int (nI i)]) (rest := []) (b := 373) d_Mo_tamper_9 rfl (jw_Mo_isWire.jo (by decide)) lm_Mo_595 ji_Mo_isWire js_Mo_isWire (w373 _) rfl rfl rfl (Nat.le_of_ble_eq_true rfl) (by decide) (by decide) (c_Mo_isWire_0_oth G u1 y i (by omega) h1_m h2_m h3_m hv2) (fun r u4 hq => ?_)
  obtain ⟨hr, hv5, hm6⟩ := hq
  rw [hr]
  clear hr r
  have hm7 := hm3.go hm6 (by intro i hi; simp only [List.mem_cons, List.not_mem_nil, or_false] at hi ⊢ <;> omega)
  have e8 : u4 66 = nI 0 := (hm6 66 (by decide)).trans e_u1
  show ST G mi_Mo_tamper 12 [(0, .ref 373), (1, .int (nI 0)), (2, .int y), (3, .int (nI i)), (4, .int mask)] [.int (nI 0)] u4 0 0 _
  refine S_if_neN d_Mo_tamper_12 rfl (by omega) (fun c => by first | exact absurd c (by omega) | exact c.elim | exact absurd c (by decide) | exact absurd (by assumption) c | exact absurd c (by assumption) | exact absurd c (Int32.not_le.mpr (by assumption))) (fun _ => ?_)
  refine ST.lift (fun _ _ k => T_iconst (v := nI 0) d_Mo_tamper_15 (by decide) k) ?_
  refine S_topi (y := nI 0) (congrArg nI (by omega)) ?_
  exact S_ret d_Mo_tamper_16 rfl (nar_z (by omega)) (by decide) (by decide) (hQ _ hv5 hm7 (e8.trans (congrArg nI (by omega))))
set_option maxRecDepth 100000 in
set_option maxHeartbeats 4000000 in
theorem c_Mo_isWire_0_1_not (G : GX) (v : Nat → Int32) (i : Nat) (b_i : i < 2147483648) (e96 : v 96 = nI 0) (hv : okv v) : CS G mi_Mo_isWire [.ref 373, .int (nI 0), .int (nI 1), .int (nI i)] v (fun r v' => r = some (.int (nI 0)) ∧ okv v' ∧ mdf [] v v' ∧ v' 96 = nI 0) := by
  refine CS.of (by decide) (Nat.le_of_ble_eq_true rfl) ?_
  generalize hQe : (fun (r : Option Value) (v' : Nat → Int32) => r = some (.int (nI 0)) ∧ okv v' ∧ mdf [] v v' ∧ v' 96 = nI 0) = Q
  have hQ : ∀ u, okv u → mdf [] v u → u 96 = nI 0 → Q (some (.int (nI 0))) u := by rw [← hQe]; exact fun u h1 h2 f0 => ⟨rfl, h1, h2, f0⟩
  clear hQe
  have hm : mdf [] v v := mdf.rf
  show ST G mi_Mo_isWire 0 [(0, .ref 373), (1, .int (nI 0)), (2, .int (nI 1)), (3, .int (nI i))] [] v 0 0 Q
  refine ST.lift (fun _ _ k => T_iload_n d_Mo_isWire_0 rfl k) ?_
  refine S_static (as := [.int (nI 0)]) (rest := []) d_Mo_isWire_1 rfl (jw_Mo_isSession.jo (by decide)) lm_Mo_545 jt_Mo_isSession rfl (Nat.le_of_ble_eq_true rfl) (by decide) (by decide) (c_Mo_isSession G v 0 (by omega)) (fun r v' hq => ?_)
  rw [hq.1, hq.2]
  clear hq r v'
  show ST G mi_Mo_isWire 4 [(0, .ref 373), (1, .int (nI 0)), (2, .int (nI 1)), (3, .int (nI i))] [.int (nI 1)] v 0 0 _
  refine S_if_eqN d_Mo_isWire_4 rfl (by omega) (fun c => by first | exact absurd c (by omega) | exact c.elim | exact absurd c (by decide) | exact absurd (by assumption) c | exact absurd c (by assumption) | exact absurd c (Int32.not_le.mpr (by assumption))) (fun _ => ?_)
  refine ST.lift (fun _ _ k => T_iload_n d_Mo_isWire_7 rfl k) ?_
  refine S_if_geN d_Mo_isWire_8 rfl (by omega) (fun _ => ?_) (fun c => by first | exact absurd c (by omega) | exact c.elim | exact absurd c (by decide) | exact absurd (by assumption) c | exact absurd c (by assumption) | exact absurd c (Int32.not_le.mpr (by assumption)))
  refine ST.lift (fun _ _ k => T_iload_n d_Mo_isWire_13 rfl k) ?_
  refine ST.lift (fun _ _ k => T_iconst (v := nI 1) d_Mo_isWire_14 (by decide) k) ?_
  refine S_icmp_neN d_Mo_isWire_15 rfl (by omega) (by omega) (fun c => by first | exact absurd c (by omega) | exact c.elim | exact absurd c (by decide) | exact absurd (by assumption) c | exact absurd c (by assumption) | exact absurd c (Int32.not_le.mpr (by assumption))) (fun _ => ?_)
  refine ST.lift (fun _ _ k => T_aload_n (v := .ref 373) d_Mo_isWire_18 rfl (Or.inr ⟨_, rfl⟩) k) ?_
  refine S_getfield d_Mo_isWire_19 fg_Mo_392 (w373 _) rfl ?_
  refine ST.lift (fun _ _ k => T_iload_n d_Mo_isWire_22 rfl k) ?_
  refine S_xload (t := 3) (k := 0) (Or.inr ⟨rfl, d_Mo_isWire_23⟩) rfl (w424 _) (by decide) (by decide) ?_
  refine S_topi (y := v 96) rfl ?_
  refine S_topi (y := nI 0) (e96) ?_
  refine S_if_eqN d_Mo_isWire_24 rfl (by omega) (fun _ => ?_) (fun c => by first | exact absurd c (by omega) | exact c.elim | exact absurd c (by decide) | exact absurd (by assumption) c | exact absurd c (by assumption) | exact absurd c (Int32.not_le.mpr (by assumption)))
  refine ST.lift (fun _ _ k => T_iconst (v := nI 0) d_Mo_isWire_37 (by decide) k) ?_
  refine S_topi (y := nI 0) (congrArg nI (by omega)) ?_
  exact S_ret d_Mo_isWire_38 rfl (nar_z (by omega)) (by decide) (by decide) (hQ _ hv hm (e96.trans (congrArg nI (by omega))))
set_option maxRecDepth 100000 in
set_option maxHeartbeats 4000000 in
theorem c_Mo_wire_0_1_not (G : GX) (v : Nat → Int32) (i : Nat) (b_i : i < 2147483648) (e96 : v 96 = nI 0) (hv : okv v) : CS G mi_Mo_wire [.ref 373, .int (nI 0), .int (nI 1), .int (nI i)] v (fun r v' => r = some (.int (nI 0)) ∧ okv v' ∧ mdf [66] v v' ∧ v' 66 = nI 1) := by
  refine CS.of (by decide) (Nat.le_of_ble_eq_true rfl) ?_
  generalize hQe : (fun (r : Option Value) (v' : Nat → Int32) => r = some (.int (nI 0)) ∧ okv v' ∧ mdf [66] v v' ∧ v' 66 = nI 1) = Q
  have hQ : ∀ u, okv u → mdf [66] v u → u 66 = nI 1 → Q (some (.int (nI 0))) u := by rw [← hQe]; exact fun u h1 h2 f0 => ⟨rfl, h1, h2, f0⟩
  clear hQe
  have hm : mdf [66] v v := mdf.rf
  show ST G mi_Mo_wire 0 [(0, .ref 373), (1, .int (nI 0)), (2, .int (nI 1)), (3, .int (nI i))] [] v 0 0 Q
  refine ST.lift (fun _ _ k => T_aload_n (v := .ref 373) d_Mo_wire_0 rfl (Or.inr ⟨_, rfl⟩) k) ?_
  refine ST.lift (fun _ _ k => T_iconst (v := nI 0) d_Mo_wire_1 (by decide) k) ?_
  refine S_putfield (v' := va_up v 66 (nI 0)) d_Mo_wire_2 (fp_Mo_316 _) (w373 _) (Nat.le_of_ble_eq_true rfl) ⟨rfl, rfl⟩ (u373_0 _ _) ?_
  have hv2 := hv.off (j := 66) (x := (nI 0)) (by decide)
  have hm3 := hm.go (mdf.up (v := v) (j := 66) (x := (nI 0))) (by intro i hi; simp only [List.mem_cons, List.not_mem_nil, or_false] at hi ⊢ <;> omega)
  have e_u1 : (va_up v 66 (nI 0)) 66 = (nI 0) := by simp [va_up]
  have e4 : (va_up v 66 (nI 0)) 96 = nI 0 := by simp only [va_up]; exact e96
  generalize va_up v 66 (nI 0) = u1 at hv2 hm3 e_u1 e4 ⊢
  refine ST.lift (fun _ _ k => T_aload_n (v := .ref 373) d_Mo_wire_5 rfl (Or.inr ⟨_, rfl⟩) k) ?_
  refine ST.lift (fun _ _ k => T_iload_n d_Mo_wire_6 rfl k) ?_
  refine ST.lift (fun _ _ k => T_iload_n d_Mo_wire_7 rfl k) ?_
  refine ST.lift (fun _ _ k => T_iload_n d_Mo_wire_8 rfl k) ?_
  refine S_virtual (as := [.int (nI 0), .int (nI 1), .int (nI i)]) (rest := []) (b := 373) d_Mo_wire_9 rfl (jw_Mo_isWire.jo (by decide)) lm_Mo_595 ji_Mo_isWire js_Mo_isWire (w373 _) rfl rfl rfl (Nat.le_of_ble_eq_true rfl) (by decide) (by decide) (c_Mo_isWire_0_1_not G u1 i (by omega) e4 hv2) (fun r u5 hq => ?_)
  obtain ⟨hr, hv6, hm7, fe0_u5⟩ := hq
  rw [hr]
  clear hr r
  have hm8 := hm3.go hm7 (by intro i hi; simp only [List.mem_cons, List.not_mem_nil, or_false] at hi ⊢ <;> omega)
  have e9 : u5 96 = nI 0 := (hm7 96 (by decide)).trans e4
  have e10 : u5 66 = nI 0 := (hm7 66 (by decide)).trans e_u1
  show ST G mi_Mo_wire 12 [(0, .ref 373), (1, .int (nI 0)), (2, .int (nI 1)), (3, .int (nI i))] [.int (nI 0)] u5 0 0 _
  refine S_if_neN d_Mo_wire_12 rfl (by omega) (fun c => by first | exact absurd c (by omega) | exact c.elim | exact absurd c (by decide) | exact absurd (by assumption) c | exact absurd c (by assumption) | exact absurd c (Int32.not_le.mpr (by assumption))) (fun _ => ?_)
  refine ST.lift (fun _ _ k => T_aload_n (v := .ref 373) d_Mo_wire_15 rfl (Or.inr ⟨_, rfl⟩) k) ?_
  refine ST.lift (fun _ _ k => T_iconst (v := nI 1) d_Mo_wire_16 (by decide) k) ?_
  refine S_putfield (v' := va_up u5 66 (nI 1)) d_Mo_wire_17 (fp_Mo_316 _) (w373 _) (Nat.le_of_ble_eq_true rfl) ⟨rfl, rfl⟩ (u373_0 _ _) ?_
  have hv12 := hv6.off (j := 66) (x := (nI 1)) (by decide)
  have hm13 := hm8.go (mdf.up (v := u5) (j := 66) (x := (nI 1))) (by intro i hi; simp only [List.mem_cons, List.not_mem_nil, or_false] at hi ⊢ <;> omega)
  have e_u11 : (va_up u5 66 (nI 1)) 66 = (nI 1) := by simp [va_up]
  have e14 : (va_up u5 66 (nI 1)) 96 = nI 0 := by simp only [va_up]; exact fe0_u5
  generalize va_up u5 66 (nI 1) = u11 at hv12 hm13 e_u11 e14 ⊢
  refine ST.lift (fun _ _ k => T_iconst (v := nI 0) d_Mo_wire_20 (by decide) k) ?_
  refine S_topi (y := nI 0) (congrArg nI (by omega)) ?_
  exact S_ret d_Mo_wire_21 rfl rfl (by decide) (by decide) (hQ _ hv12 hm13 (e_u11.trans (congrArg nI (by omega))))
set_option maxRecDepth 100000 in
set_option maxHeartbeats 4000000 in
theorem c_Mo_tamper_0_1_not (G : GX) (v : Nat → Int32) (i : Nat) (b_i : i < 2147483648) (mask : Int32) (e96 : v 96 = nI 0) (hv : okv v) : CS G mi_Mo_tamper [.ref 373, .int (nI 0), .int (nI 1), .int (nI i), .int mask] v (fun r v' => r = some (.int (nI 0)) ∧ okv v' ∧ mdf [66] v v' ∧ v' 66 = nI 0) := by
  refine CS.of (by decide) (Nat.le_of_ble_eq_true rfl) ?_
  generalize hQe : (fun (r : Option Value) (v' : Nat → Int32) => r = some (.int (nI 0)) ∧ okv v' ∧ mdf [66] v v' ∧ v' 66 = nI 0) = Q
  have hQ : ∀ u, okv u → mdf [66] v u → u 66 = nI 0 → Q (some (.int (nI 0))) u := by rw [← hQe]; exact fun u h1 h2 f0 => ⟨rfl, h1, h2, f0⟩
  clear hQe
  have hm : mdf [66] v v := mdf.rf
  show ST G mi_Mo_tamper 0 [(0, .ref 373), (1, .int (nI 0)), (2, .int (nI 1)), (3, .int (nI i)), (4, .int mask)] [] v 0 0 Q
  refine ST.lift (fun _ _ k => T_aload_n (v := .ref 373) d_Mo_tamper_0 rfl (Or.inr ⟨_, rfl⟩) k) ?_
  refine ST.lift (fun _ _ k => T_iconst (v := nI 0) d_Mo_tamper_1 (by decide) k) ?_
  refine S_putfield (v' := va_up v 66 (nI 0)) d_Mo_tamper_2 (fp_Mo_316 _) (w373 _) (Nat.le_of_ble_eq_true rfl) ⟨rfl, rfl⟩ (u373_0 _ _) ?_
  have hv2 := hv.off (j := 66) (x := (nI 0)) (by decide)
  have hm3 := hm.go (mdf.up (v := v) (j := 66) (x := (nI 0))) (by intro i hi; simp only [List.mem_cons, List.not_mem_nil, or_false] at hi ⊢ <;> omega)
  have e_u1 : (va_up v 66 (nI 0)) 66 = (nI 0) := by simp [va_up]
  have e4 : (va_up v 66 (nI 0)) 96 = nI 0 := by simp only [va_up]; exact e96
  generalize va_up v 66 (nI 0) = u1 at hv2 hm3 e_u1 e4 ⊢
  refine ST.lift (fun _ _ k => T_aload_n (v := .ref 373) d_Mo_tamper_5 rfl (Or.inr ⟨_, rfl⟩) k) ?_
  refine ST.lift (fun _ _ k => T_iload_n d_Mo_tamper_6 rfl k) ?_
  refine ST.lift (fun _ _ k => T_iload_n d_Mo_tamper_7 rfl k) ?_
  refine ST.lift (fun _ _ k => T_iload_n d_Mo_tamper_8 rfl k) ?_
  refine S_virtual (as := [.int (nI 0), .int (nI 1), .int (nI i)]) (rest := []) (b := 373) d_Mo_tamper_9 rfl (jw_Mo_isWire.jo (by decide)) lm_Mo_595 ji_Mo_isWire js_Mo_isWire (w373 _) rfl rfl rfl (Nat.le_of_ble_eq_true rfl) (by decide) (by decide) (c_Mo_isWire_0_1_not G u1 i (by omega) e4 hv2) (fun r u5 hq => ?_)
  obtain ⟨hr, hv6, hm7, fe0_u5⟩ := hq
  rw [hr]
  clear hr r
  have hm8 := hm3.go hm7 (by intro i hi; simp only [List.mem_cons, List.not_mem_nil, or_false] at hi ⊢ <;> omega)
  have e9 : u5 96 = nI 0 := (hm7 96 (by decide)).trans e4
  have e10 : u5 66 = nI 0 := (hm7 66 (by decide)).trans e_u1
  show ST G mi_Mo_tamper 12 [(0, .ref 373), (1, .int (nI 0)), (2, .int (nI 1)), (3, .int (nI i)), (4, .int mask)] [.int (nI 0)] u5 0 0 _
  refine S_if_neN d_Mo_tamper_12 rfl (by omega) (fun c => by first | exact absurd c (by omega) | exact c.elim | exact absurd c (by decide) | exact absurd (by assumption) c | exact absurd c (by assumption) | exact absurd c (Int32.not_le.mpr (by assumption))) (fun _ => ?_)
  refine ST.lift (fun _ _ k => T_iconst (v := nI 0) d_Mo_tamper_15 (by decide) k) ?_
  refine S_topi (y := nI 0) (congrArg nI (by omega)) ?_
  exact S_ret d_Mo_tamper_16 rfl (nar_z (by omega)) (by decide) (by decide) (hQ _ hv6 hm8 (e10.trans (congrArg nI (by omega))))
set_option maxRecDepth 100000 in
set_option maxHeartbeats 4000000 in
theorem c_Mo_isWire_0_2_not (G : GX) (v : Nat → Int32) (i : Nat) (b_i : i < 2147483648) (e100 : v 100 = nI 0) (hv : okv v) : CS G mi_Mo_isWire [.ref 373, .int (nI 0), .int (nI 2), .int (nI i)] v (fun r v' => r = some (.int (nI 0)) ∧ okv v' ∧ mdf [] v v' ∧ v' 100 = nI 0) := by
  refine CS.of (by decide) (Nat.le_of_ble_eq_true rfl) ?_
  generalize hQe : (fun (r : Option Value) (v' : Nat → Int32) => r = some (.int (nI 0)) ∧ okv v' ∧ mdf [] v v' ∧ v' 100 = nI 0) = Q
  have hQ : ∀ u, okv u → mdf [] v u → u 100 = nI 0 → Q (some (.int (nI 0))) u := by rw [← hQe]; exact fun u h1 h2 f0 => ⟨rfl, h1, h2, f0⟩
  clear hQe
  have hm : mdf [] v v := mdf.rf
  show ST G mi_Mo_isWire 0 [(0, .ref 373), (1, .int (nI 0)), (2, .int (nI 2)), (3, .int (nI i))] [] v 0 0 Q
  refine ST.lift (fun _ _ k => T_iload_n d_Mo_isWire_0 rfl k) ?_
  refine S_static (as := [.int (nI 0)]) (rest := []) d_Mo_isWire_1 rfl (jw_Mo_isSession.jo (by decide)) lm_Mo_545 jt_Mo_isSession rfl (Nat.le_of_ble_eq_true rfl) (by decide) (by decide) (c_Mo_isSession G v 0 (by omega)) (fun r v' hq => ?_)
  rw [hq.1, hq.2]
  clear hq r v'
  show ST G mi_Mo_isWire 4 [(0, .ref 373), (1, .int (nI 0)), (2, .int (nI 2)), (3, .int (nI i))] [.int (nI 1)] v 0 0 _
  refine S_if_eqN d_Mo_isWire_4 rfl (by omega) (fun c => by first | exact absurd c (by omega) | exact c.elim | exact absurd c (by decide) | exact absurd (by assumption) c | exact absurd c (by assumption) | exact absurd c (Int32.not_le.mpr (by assumption))) (fun _ => ?_)
  refine ST.lift (fun _ _ k => T_iload_n d_Mo_isWire_7 rfl k) ?_
  refine S_if_geN d_Mo_isWire_8 rfl (by omega) (fun _ => ?_) (fun c => by first | exact absurd c (by omega) | exact c.elim | exact absurd c (by decide) | exact absurd (by assumption) c | exact absurd c (by assumption) | exact absurd c (Int32.not_le.mpr (by assumption)))
  refine ST.lift (fun _ _ k => T_iload_n d_Mo_isWire_13 rfl k) ?_
  refine ST.lift (fun _ _ k => T_iconst (v := nI 1) d_Mo_isWire_14 (by decide) k) ?_
  refine S_icmp_neN d_Mo_isWire_15 rfl (by omega) (by omega) (fun _ => ?_) (fun c => by first | exact absurd c (by omega) | exact c.elim | exact absurd c (by decide) | exact absurd (by assumption) c | exact absurd c (by assumption) | exact absurd c (Int32.not_le.mpr (by assumption)))
  refine ST.lift (fun _ _ k => T_iload_n d_Mo_isWire_39 rfl k) ?_
  refine ST.lift (fun _ _ k => T_iconst (v := nI 2) d_Mo_isWire_40 (by decide) k) ?_
  refine S_icmp_neN d_Mo_isWire_41 rfl (by omega) (by omega) (fun c => by first | exact absurd c (by omega) | exact c.elim | exact absurd c (by decide) | exact absurd (by assumption) c | exact absurd c (by assumption) | exact absurd c (Int32.not_le.mpr (by assumption))) (fun _ => ?_)
  refine ST.lift (fun _ _ k => T_aload_n (v := .ref 373) d_Mo_isWire_44 rfl (Or.inr ⟨_, rfl⟩) k) ?_
  refine S_getfield d_Mo_isWire_45 fg_Mo_395 (w373 _) rfl ?_
  refine ST.lift (fun _ _ k => T_iload_n d_Mo_isWire_48 rfl k) ?_
  refine S_xload (t := 3) (k := 0) (Or.inr ⟨rfl, d_Mo_isWire_49⟩) rfl (w425 _) (by decide) (by decide) ?_
  refine S_topi (y := v 100) rfl ?_
  refine S_topi (y := nI 0) (e100) ?_
  refine S_if_eqN d_Mo_isWire_50 rfl (by omega) (fun _ => ?_) (fun c => by first | exact absurd c (by omega) | exact c.elim | exact absurd c (by decide) | exact absurd (by assumption) c | exact absurd c (by assumption) | exact absurd c (Int32.not_le.mpr (by assumption)))
  refine ST.lift (fun _ _ k => T_iconst (v := nI 0) d_Mo_isWire_64 (by decide) k) ?_
  refine S_topi (y := nI 0) (congrArg nI (by omega)) ?_
  exact S_ret d_Mo_isWire_65 rfl (nar_z (by omega)) (by decide) (by decide) (hQ _ hv hm (e100.trans (congrArg nI (by omega))))
set_option maxRecDepth 100000 in
set_option maxHeartbeats 4000000 in
theorem c_Mo_wire_0_2_not (G : GX) (v : Nat → Int32) (i : Nat) (b_i : i < 2147483648) (e100 : v 100 = nI 0) (hv : okv v) : CS G mi_Mo_wire [.ref 373, .int (nI 0), .int (nI 2), .int (nI i)] v (fun r v' => r = some (.int (nI 0)) ∧ okv v' ∧ mdf [66] v v' ∧ v' 66 = nI 1) := by
  refine CS.of (by decide) (Nat.le_of_ble_eq_true rfl) ?_
  generalize hQe : (fun (r : Option Value) (v' : Nat → Int32) => r = some (.int (nI 0)) ∧ okv v' ∧ mdf [66] v v' ∧ v' 66 = nI 1) = Q
  have hQ : ∀ u, okv u → mdf [66] v u → u 66 = nI 1 → Q (some (.int (nI 0))) u := by rw [← hQe]; exact fun u h1 h2 f0 => ⟨rfl, h1, h2, f0⟩
  clear hQe
  have hm : mdf [66] v v := mdf.rf
  show ST G mi_Mo_wire 0 [(0, .ref 373), (1, .int (nI 0)), (2, .int (nI 2)), (3, .int (nI i))] [] v 0 0 Q
  refine ST.lift (fun _ _ k => T_aload_n (v := .ref 373) d_Mo_wire_0 rfl (Or.inr ⟨_, rfl⟩) k) ?_
  refine ST.lift (fun _ _ k => T_iconst (v := nI 0) d_Mo_wire_1 (by decide) k) ?_
  refine S_putfield (v' := va_up v 66 (nI 0)) d_Mo_wire_2 (fp_Mo_316 _) (w373 _) (Nat.le_of_ble_eq_true rfl) ⟨rfl, rfl⟩ (u373_0 _ _) ?_
  have hv2 := hv.off (j := 66) (x := (nI 0)) (by decide)
  have hm3 := hm.go (mdf.up (v := v) (j := 66) (x := (nI 0))) (by intro i hi; simp only [List.mem_cons, List.not_mem_nil, or_false] at hi ⊢ <;> omega)
  have e_u1 : (va_up v 66 (nI 0)) 66 = (nI 0) := by simp [va_up]
  have e4 : (va_up v 66 (nI 0)) 100 = nI 0 := by simp only [va_up]; exact e100
  generalize va_up v 66 (nI 0) = u1 at hv2 hm3 e_u1 e4 ⊢
  refine ST.lift (fun _ _ k => T_aload_n (v := .ref 373) d_Mo_wire_5 rfl (Or.inr ⟨_, rfl⟩) k) ?_
  refine ST.lift (fun _ _ k => T_iload_n d_Mo_wire_6 rfl k) ?_
  refine ST.lift (fun _ _ k => T_iload_n d_Mo_wire_7 rfl k) ?_
  refine ST.lift (fun _ _ k => T_iload_n d_Mo_wire_8 rfl k) ?_
  refine S_virtual (as := [.int (nI 0), .int (nI 2), .int (nI i)]) (rest := []) (b := 373) d_Mo_wire_9 rfl (jw_Mo_isWire.jo (by decide)) lm_Mo_595 ji_Mo_isWire js_Mo_isWire (w373 _) rfl rfl rfl (Nat.le_of_ble_eq_true rfl) (by decide) (by decide) (c_Mo_isWire_0_2_not G u1 i (by omega) e4 hv2) (fun r u5 hq => ?_)
  obtain ⟨hr, hv6, hm7, fe0_u5⟩ := hq
  rw [hr]
  clear hr r
  have hm8 := hm3.go hm7 (by intro i hi; simp only [List.mem_cons, List.not_mem_nil, or_false] at hi ⊢ <;> omega)
  have e9 : u5 100 = nI 0 := (hm7 100 (by decide)).trans e4
  have e10 : u5 66 = nI 0 := (hm7 66 (by decide)).trans e_u1
  show ST G mi_Mo_wire 12 [(0, .ref 373), (1, .int (nI 0)), (2, .int (nI 2)), (3, .int (nI i))] [.int (nI 0)] u5 0 0 _
  refine S_if_neN d_Mo_wire_12 rfl (by omega) (fun c => by first | exact absurd c (by omega) | exact c.elim | exact absurd c (by decide) | exact absurd (by assumption) c | exact absurd c (by assumption) | exact absurd c (Int32.not_le.mpr (by assumption))) (fun _ => ?_)
  refine ST.lift (fun _ _ k => T_aload_n (v := .ref 373) d_Mo_wire_15 rfl (Or.inr ⟨_, rfl⟩) k) ?_
  refine ST.lift (fun _ _ k => T_iconst (v := nI 1) d_Mo_wire_16 (by decide) k) ?_
  refine S_putfield (v' := va_up u5 66 (nI 1)) d_Mo_wire_17 (fp_Mo_316 _) (w373 _) (Nat.le_of_ble_eq_true rfl) ⟨rfl, rfl⟩ (u373_0 _ _) ?_
  have hv12 := hv6.off (j := 66) (x := (nI 1)) (by decide)
  have hm13 := hm8.go (mdf.up (v := u5) (j := 66) (x := (nI 1))) (by intro i hi; simp only [List.mem_cons, List.not_mem_nil, or_false] at hi ⊢ <;> omega)
  have e_u11 : (va_up u5 66 (nI 1)) 66 = (nI 1) := by simp [va_up]
  have e14 : (va_up u5 66 (nI 1)) 100 = nI 0 := by simp only [va_up]; exact fe0_u5
  generalize va_up u5 66 (nI 1) = u11 at hv12 hm13 e_u11 e14 ⊢
  refine ST.lift (fun _ _ k => T_iconst (v := nI 0) d_Mo_wire_20 (by decide) k) ?_
  refine S_topi (y := nI 0) (congrArg nI (by omega)) ?_
  exact S_ret d_Mo_wire_21 rfl rfl (by decide) (by decide) (hQ _ hv12 hm13 (e_u11.trans (congrArg nI (by omega))))
set_option maxRecDepth 100000 in
set_option maxHeartbeats 4000000 in
theorem c_Mo_tamper_0_2_not (G : GX) (v : Nat → Int32) (i : Nat) (b_i : i < 2147483648) (mask : Int32) (e100 : v 100 = nI 0) (hv : okv v) : CS G mi_Mo_tamper [.ref 373, .int (nI 0), .int (nI 2), .int (nI i), .int mask] v (fun r v' => r = some (.int (nI 0)) ∧ okv v' ∧ mdf [66] v v' ∧ v' 66 = nI 0) := by
  refine CS.of (by decide) (Nat.le_of_ble_eq_true rfl) ?_
  generalize hQe : (fun (r : Option Value) (v' : Nat → Int32) => r = some (.int (nI 0)) ∧ okv v' ∧ mdf [66] v v' ∧ v' 66 = nI 0) = Q
  have hQ : ∀ u, okv u → mdf [66] v u → u 66 = nI 0 → Q (some (.int (nI 0))) u := by rw [← hQe]; exact fun u h1 h2 f0 => ⟨rfl, h1, h2, f0⟩
  clear hQe
  have hm : mdf [66] v v := mdf.rf
  show ST G mi_Mo_tamper 0 [(0, .ref 373), (1, .int (nI 0)), (2, .int (nI 2)), (3, .int (nI i)), (4, .int mask)] [] v 0 0 Q
  refine ST.lift (fun _ _ k => T_aload_n (v := .ref 373) d_Mo_tamper_0 rfl (Or.inr ⟨_, rfl⟩) k) ?_
  refine ST.lift (fun _ _ k => T_iconst (v := nI 0) d_Mo_tamper_1 (by decide) k) ?_
  refine S_putfield (v' := va_up v 66 (nI 0)) d_Mo_tamper_2 (fp_Mo_316 _) (w373 _) (Nat.le_of_ble_eq_true rfl) ⟨rfl, rfl⟩ (u373_0 _ _) ?_
  have hv2 := hv.off (j := 66) (x := (nI 0)) (by decide)
  have hm3 := hm.go (mdf.up (v := v) (j := 66) (x := (nI 0))) (by intro i hi; simp only [List.mem_cons, List.not_mem_nil, or_false] at hi ⊢ <;> omega)
  have e_u1 : (va_up v 66 (nI 0)) 66 = (nI 0) := by simp [va_up]
  have e4 : (va_up v 66 (nI 0)) 100 = nI 0 := by simp only [va_up]; exact e100
  generalize va_up v 66 (nI 0) = u1 at hv2 hm3 e_u1 e4 ⊢
  refine ST.lift (fun _ _ k => T_aload_n (v := .ref 373) d_Mo_tamper_5 rfl (Or.inr ⟨_, rfl⟩) k) ?_
  refine ST.lift (fun _ _ k => T_iload_n d_Mo_tamper_6 rfl k) ?_
  refine ST.lift (fun _ _ k => T_iload_n d_Mo_tamper_7 rfl k) ?_
  refine ST.lift (fun _ _ k => T_iload_n d_Mo_tamper_8 rfl k) ?_
  refine S_virtual (as := [.int (nI 0), .int (nI 2), .int (nI i)]) (rest := []) (b := 373) d_Mo_tamper_9 rfl (jw_Mo_isWire.jo (by decide)) lm_Mo_595 ji_Mo_isWire js_Mo_isWire (w373 _) rfl rfl rfl (Nat.le_of_ble_eq_true rfl) (by decide) (by decide) (c_Mo_isWire_0_2_not G u1 i (by omega) e4 hv2) (fun r u5 hq => ?_)
  obtain ⟨hr, hv6, hm7, fe0_u5⟩ := hq
  rw [hr]
  clear hr r
  have hm8 := hm3.go hm7 (by intro i hi; simp only [List.mem_cons, List.not_mem_nil, or_false] at hi ⊢ <;> omega)
  have e9 : u5 100 = nI 0 := (hm7 100 (by decide)).trans e4
  have e10 : u5 66 = nI 0 := (hm7 66 (by decide)).trans e_u1
  show ST G mi_Mo_tamper 12 [(0, .ref 373), (1, .int (nI 0)), (2, .int (nI 2)), (3, .int (nI i)), (4, .int mask)] [.int (nI 0)] u5 0 0 _
  refine S_if_neN d_Mo_tamper_12 rfl (by omega) (fun c => by first | exact absurd c (by omega) | exact c.elim | exact absurd c (by decide) | exact absurd (by assumption) c | exact absurd c (by assumption) | exact absurd c (Int32.not_le.mpr (by assumption))) (fun _ => ?_)
  refine ST.lift (fun _ _ k => T_iconst (v := nI 0) d_Mo_tamper_15 (by decide) k) ?_
  refine S_topi (y := nI 0) (congrArg nI (by omega)) ?_
  exact S_ret d_Mo_tamper_16 rfl (nar_z (by omega)) (by decide) (by decide) (hQ _ hv6 hm8 (e10.trans (congrArg nI (by omega))))
set_option maxRecDepth 100000 in
set_option maxHeartbeats 4000000 in
theorem c_Mo_isWire_0_3_not (G : GX) (v : Nat → Int32) (i : Nat) (b_i : i < 2147483648) (e104 : v 104 = nI 0) (hv : okv v) : CS G mi_Mo_isWire [.ref 373, .int (nI 0), .int (nI 3), .int (nI i)] v (fun r v' => r = some (.int (nI 0)) ∧ okv v' ∧ mdf [] v v' ∧ v' 104 = nI 0) := by
  refine CS.of (by decide) (Nat.le_of_ble_eq_true rfl) ?_
  generalize hQe : (fun (r : Option Value) (v' : Nat → Int32) => r = some (.int (nI 0)) ∧ okv v' ∧ mdf [] v v' ∧ v' 104 = nI 0) = Q
  have hQ : ∀ u, okv u → mdf [] v u → u 104 = nI 0 → Q (some (.int (nI 0))) u := by rw [← hQe]; exact fun u h1 h2 f0 => ⟨rfl, h1, h2, f0⟩
  clear hQe
  have hm : mdf [] v v := mdf.rf
  show ST G mi_Mo_isWire 0 [(0, .ref 373), (1, .int (nI 0)), (2, .int (nI 3)), (3, .int (nI i))] [] v 0 0 Q
  refine ST.lift (fun _ _ k => T_iload_n d_Mo_isWire_0 rfl k) ?_
  refine S_static (as := [.int (nI 0)]) (rest := []) d_Mo_isWire_1 rfl (jw_Mo_isSession.jo (by decide)) lm_Mo_545 jt_Mo_isSession rfl (Nat.le_of_ble_eq_true rfl) (by decide) (by decide) (c_Mo_isSession G v 0 (by omega)) (fun r v' hq => ?_)
  rw [hq.1, hq.2]
  clear hq r v'
  show ST G mi_Mo_isWire 4 [(0, .ref 373), (1, .int (nI 0)), (2, .int (nI 3)), (3, .int (nI i))] [.int (nI 1)] v 0 0 _
  refine S_if_eqN d_Mo_isWire_4 rfl (by omega) (fun c => by first | exact absurd c (by omega) | exact c.elim | exact absurd c (by decide) | exact absurd (by assumption) c | exact absurd c (by assumption) | exact absurd c (Int32.not_le.mpr (by assumption))) (fun _ => ?_)
  refine ST.lift (fun _ _ k => T_iload_n d_Mo_isWire_7 rfl k) ?_
  refine S_if_geN d_Mo_isWire_8 rfl (by omega) (fun _ => ?_) (fun c => by first | exact absurd c (by omega) | exact c.elim | exact absurd c (by decide) | exact absurd (by assumption) c | exact absurd c (by assumption) | exact absurd c (Int32.not_le.mpr (by assumption)))
  refine ST.lift (fun _ _ k => T_iload_n d_Mo_isWire_13 rfl k) ?_
  refine ST.lift (fun _ _ k => T_iconst (v := nI 1) d_Mo_isWire_14 (by decide) k) ?_
  refine S_icmp_neN d_Mo_isWire_15 rfl (by omega) (by omega) (fun _ => ?_) (fun c => by first | exact absurd c (by omega) | exact c.elim | exact absurd c (by decide) | exact absurd (by assumption) c | exact absurd c (by assumption) | exact absurd c (Int32.not_le.mpr (by assumption)))
  refine ST.lift (fun _ _ k => T_iload_n d_Mo_isWire_39 rfl k) ?_
  refine ST.lift (fun _ _ k => T_iconst (v := nI 2) d_Mo_isWire_40 (by decide) k) ?_
  refine S_icmp_neN d_Mo_isWire_41 rfl (by omega) (by omega) (fun _ => ?_) (fun c => by first | exact absurd c (by omega) | exact c.elim | exact absurd c (by decide) | exact absurd (by assumption) c | exact absurd c (by assumption) | exact absurd c (Int32.not_le.mpr (by assumption)))
  refine ST.lift (fun _ _ k => T_iload_n d_Mo_isWire_66 rfl k) ?_
  refine ST.lift (fun _ _ k => T_iconst (v := nI 3) d_Mo_isWire_67 (by decide) k) ?_
  refine S_icmp_neN d_Mo_isWire_68 rfl (by omega) (by omega) (fun c => by first | exact absurd c (by omega) | exact c.elim | exact absurd c (by decide) | exact absurd (by assumption) c | exact absurd c (by assumption) | exact absurd c (Int32.not_le.mpr (by assumption))) (fun _ => ?_)
  refine ST.lift (fun _ _ k => T_aload_n (v := .ref 373) d_Mo_isWire_71 rfl (Or.inr ⟨_, rfl⟩) k) ?_
  refine S_getfield d_Mo_isWire_72 fg_Mo_398 (w373 _) rfl ?_
  refine ST.lift (fun _ _ k => T_iload_n d_Mo_isWire_75 rfl k) ?_
  refine S_xload (t := 3) (k := 0) (Or.inr ⟨rfl, d_Mo_isWire_76⟩) rfl (w426 _) (by decide) (by decide) ?_
  refine S_topi (y := v 104) rfl ?_
  refine S_topi (y := nI 0) (e104) ?_
  refine S_if_eqN d_Mo_isWire_77 rfl (by omega) (fun _ => ?_) (fun c => by first | exact absurd c (by omega) | exact c.elim | exact absurd c (by decide) | exact absurd (by assumption) c | exact absurd c (by assumption) | exact absurd c (Int32.not_le.mpr (by assumption)))
  refine ST.lift (fun _ _ k => T_iconst (v := nI 0) d_Mo_isWire_90 (by decide) k) ?_
  refine S_topi (y := nI 0) (congrArg nI (by omega)) ?_
  exact S_ret d_Mo_isWire_91 rfl (nar_z (by omega)) (by decide) (by decide) (hQ _ hv hm (e104.trans (congrArg nI (by omega))))
set_option maxRecDepth 100000 in
set_option maxHeartbeats 4000000 in
theorem c_Mo_wire_0_3_not (G : GX) (v : Nat → Int32) (i : Nat) (b_i : i < 2147483648) (e104 : v 104 = nI 0) (hv : okv v) : CS G mi_Mo_wire [.ref 373, .int (nI 0), .int (nI 3), .int (nI i)] v (fun r v' => r = some (.int (nI 0)) ∧ okv v' ∧ mdf [66] v v' ∧ v' 66 = nI 1) := by
  refine CS.of (by decide) (Nat.le_of_ble_eq_true rfl) ?_
  generalize hQe : (fun (r : Option Value) (v' : Nat → Int32) => r = some (.int (nI 0)) ∧ okv v' ∧ mdf [66] v v' ∧ v' 66 = nI 1) = Q
  have hQ : ∀ u, okv u → mdf [66] v u → u 66 = nI 1 → Q (some (.int (nI 0))) u := by rw [← hQe]; exact fun u h1 h2 f0 => ⟨rfl, h1, h2, f0⟩
  clear hQe
  have hm : mdf [66] v v := mdf.rf
  show ST G mi_Mo_wire 0 [(0, .ref 373), (1, .int (nI 0)), (2, .int (nI 3)), (3, .int (nI i))] [] v 0 0 Q
  refine ST.lift (fun _ _ k => T_aload_n (v := .ref 373) d_Mo_wire_0 rfl (Or.inr ⟨_, rfl⟩) k) ?_
  refine ST.lift (fun _ _ k => T_iconst (v := nI 0) d_Mo_wire_1 (by decide) k) ?_
  refine S_putfield (v' := va_up v 66 (nI 0)) d_Mo_wire_2 (fp_Mo_316 _) (w373 _) (Nat.le_of_ble_eq_true rfl) ⟨rfl, rfl⟩ (u373_0 _ _) ?_
  have hv2 := hv.off (j := 66) (x := (nI 0)) (by decide)
  have hm3 := hm.go (mdf.up (v := v) (j := 66) (x := (nI 0))) (by intro i hi; simp only [List.mem_cons, List.not_mem_nil, or_false] at hi ⊢ <;> omega)
  have e_u1 : (va_up v 66 (nI 0)) 66 = (nI 0) := by simp [va_up]
  have e4 : (va_up v 66 (nI 0)) 104 = nI 0 := by simp only [va_up]; exact e104
  generalize va_up v 66 (nI 0) = u1 at hv2 hm3 e_u1 e4 ⊢
  refine ST.lift (fun _ _ k => T_aload_n (v := .ref 373) d_Mo_wire_5 rfl (Or.inr ⟨_, rfl⟩) k) ?_
  refine ST.lift (fun _ _ k => T_iload_n d_Mo_wire_6 rfl k) ?_
  refine ST.lift (fun _ _ k => T_iload_n d_Mo_wire_7 rfl k) ?_
  refine ST.lift (fun _ _ k => T_iload_n d_Mo_wire_8 rfl k) ?_
  refine S_virtual (as := [.int (nI 0), .int (nI 3), .int (nI i)]) (rest := []) (b := 373) d_Mo_wire_9 rfl (jw_Mo_isWire.jo (by decide)) lm_Mo_595 ji_Mo_isWire js_Mo_isWire (w373 _) rfl rfl rfl (Nat.le_of_ble_eq_true rfl) (by decide) (by decide) (c_Mo_isWire_0_3_not G u1 i (by omega) e4 hv2) (fun r u5 hq => ?_)
  obtain ⟨hr, hv6, hm7, fe0_u5⟩ := hq
  rw [hr]
  clear hr r
  have hm8 := hm3.go hm7 (by intro i hi; simp only [List.mem_cons, List.not_mem_nil, or_false] at hi ⊢ <;> omega)
  have e9 : u5 104 = nI 0 := (hm7 104 (by decide)).trans e4
  have e10 : u5 66 = nI 0 := (hm7 66 (by decide)).trans e_u1
  show ST G mi_Mo_wire 12 [(0, .ref 373), (1, .int (nI 0)), (2, .int (nI 3)), (3, .int (nI i))] [.int (nI 0)] u5 0 0 _
  refine S_if_neN d_Mo_wire_12 rfl (by omega) (fun c => by first | exact absurd c (by omega) | exact c.elim | exact absurd c (by decide) | exact absurd (by assumption) c | exact absurd c (by assumption) | exact absurd c (Int32.not_le.mpr (by assumption))) (fun _ => ?_)
  refine ST.lift (fun _ _ k => T_aload_n (v := .ref 373) d_Mo_wire_15 rfl (Or.inr ⟨_, rfl⟩) k) ?_
  refine ST.lift (fun _ _ k => T_iconst (v := nI 1) d_Mo_wire_16 (by decide) k) ?_
  refine S_putfield (v' := va_up u5 66 (nI 1)) d_Mo_wire_17 (fp_Mo_316 _) (w373 _) (Nat.le_of_ble_eq_true rfl) ⟨rfl, rfl⟩ (u373_0 _ _) ?_
  have hv12 := hv6.off (j := 66) (x := (nI 1)) (by decide)
  have hm13 := hm8.go (mdf.up (v := u5) (j := 66) (x := (nI 1))) (by intro i hi; simp only [List.mem_cons, List.not_mem_nil, or_false] at hi ⊢ <;> omega)
  have e_u11 : (va_up u5 66 (nI 1)) 66 = (nI 1) := by simp [va_up]
  have e14 : (va_up u5 66 (nI 1)) 104 = nI 0 := by simp only [va_up]; exact fe0_u5
  generalize va_up u5 66 (nI 1) = u11 at hv12 hm13 e_u11 e14 ⊢
  refine ST.lift (fun _ _ k => T_iconst (v := nI 0) d_Mo_wire_20 (by decide) k) ?_
  refine S_topi (y := nI 0) (congrArg nI (by omega)) ?_
  exact S_ret d_Mo_wire_21 rfl rfl (by decide) (by decide) (hQ _ hv12 hm13 (e_u11.trans (congrArg nI (by omega))))
set_option maxRecDepth 100000 in
set_option maxHeartbeats 4000000 in
theorem c_Mo_tamper_0_3_not (G : GX) (v : Nat → Int32) (i : Nat) (b_i : i < 2147483648) (mask : Int32) (e104 : v 104 = nI 0) (hv : okv v) : CS G mi_Mo_tamper [.ref 373, .int (nI 0), .int (nI 3), .int (nI i), .int mask] v (fun r v' => r = some (.int (nI 0)) ∧ okv v' ∧ mdf [66] v v' ∧ v' 66 = nI 0) := by
  refine CS.of (by decide) (Nat.le_of_ble_eq_true rfl) ?_
  generalize hQe : (fun (r : Option Value) (v' : Nat → Int32) => r = some (.int (nI 0)) ∧ okv v' ∧ mdf [66] v v' ∧ v' 66 = nI 0) = Q
  have hQ : ∀ u, okv u → mdf [66] v u → u 66 = nI 0 → Q (some (.int (nI 0))) u := by rw [← hQe]; exact fun u h1 h2 f0 => ⟨rfl, h1, h2, f0⟩
  clear hQe
  have hm : mdf [66] v v := mdf.rf
  show ST G mi_Mo_tamper 0 [(0, .ref 373), (1, .int (nI 0)), (2, .int (nI 3)), (3, .int (nI i)), (4, .int mask)] [] v 0 0 Q
  refine ST.lift (fun _ _ k => T_aload_n (v := .ref 373) d_Mo_tamper_0 rfl (Or.inr ⟨_, rfl⟩) k) ?_
  refine ST.lift (fun _ _ k => T_iconst (v := nI 0) d_Mo_tamper_1 (by decide) k) ?_
  refine S_putfield (v' := va_up v 66 (nI 0)) d_Mo_tamper_2 (fp_Mo_316 _) (w373 _) (Nat.le_of_ble_eq_true rfl) ⟨rfl, rfl⟩ (u373_0 _ _) ?_
  have hv2 := hv.off (j := 66) (x := (nI 0)) (by decide)
  have hm3 := hm.go (mdf.up (v := v) (j := 66) (x := (nI 0))) (by intro i hi; simp only [List.mem_cons, List.not_mem_nil, or_false] at hi ⊢ <;> omega)
  have e_u1 : (va_up v 66 (nI 0)) 66 = (nI 0) := by simp [va_up]
  have e4 : (va_up v 66 (nI 0)) 104 = nI 0 := by simp only [va_up]; exact e104
  generalize va_up v 66 (nI 0) = u1 at hv2 hm3 e_u1 e4 ⊢
  refine ST.lift (fun _ _ k => T_aload_n (v := .ref 373) d_Mo_tamper_5 rfl (Or.inr ⟨_, rfl⟩) k) ?_
  refine ST.lift (fun _ _ k => T_iload_n d_Mo_tamper_6 rfl k) ?_
  refine ST.lift (fun _ _ k => T_iload_n d_Mo_tamper_7 rfl k) ?_
  refine ST.lift (fun _ _ k => T_iload_n d_Mo_tamper_8 rfl k) ?_
  refine S_virtual (as := [.int (nI 0), .int (nI 3), .int (nI i)]) (rest := []) (b := 373) d_Mo_tamper_9 rfl (jw_Mo_isWire.jo (by decide)) lm_Mo_595 ji_Mo_isWire js_Mo_isWire (w373 _) rfl rfl rfl (Nat.le_of_ble_eq_true rfl) (by decide) (by decide) (c_Mo_isWire_0_3_not G u1 i (by omega) e4 hv2) (fun r u5 hq => ?_)
  obtain ⟨hr, hv6, hm7, fe0_u5⟩ := hq
  rw [hr]
  clear hr r
  have hm8 := hm3.go hm7 (by intro i hi; simp only [List.mem_cons, List.not_mem_nil, or_false] at hi ⊢ <;> omega)
  have e9 : u5 104 = nI 0 := (hm7 104 (by decide)).trans e4
  have e10 : u5 66 = nI 0 := (hm7 66 (by decide)).trans e_u1
  show ST G mi_Mo_tamper 12 [(0, .ref 373), (1, .int (nI 0)), (2, .int (nI 3)), (3, .int (nI i)), (4, .int mask)] [.int (nI 0)] u5 0 0 _
  refine S_if_neN d_Mo_tamper_12 rfl (by omega) (fun c => by first | exact absurd c (by omega) | exact c.elim | exact absurd c (by decide) | exact absurd (by assumption) c | exact absurd c (by assumption) | exact absurd c (Int32.not_le.mpr (by assumption))) (fun _ => ?_)
  refine ST.lift (fun _ _ k => T_iconst (v := nI 0) d_Mo_tamper_15 (by decide) k) ?_
  refine S_topi (y := nI 0) (congrArg nI (by omega)) ?_
  exact S_ret d_Mo_tamper_16 rfl (nar_z (by omega)) (by decide) (by decide) (hQ _ hv6 hm8 (e10.trans (congrArg nI (by omega))))
set_option maxRecDepth 100000 in
set_option maxHeartbeats 4000000 in
theorem c_Mo_key_0_neg (G : GX) (v : Nat → Int32) (y : Int32) (z : Int32) (hz_n : z < 0) (hv : okv v) : CS G mi_Mo_key [.ref 373, .int (nI 0), .int y, .int z] v (fun r v' => r = some (.int (nI 0)) ∧ okv v' ∧ mdf [66] v v' ∧ v' 66 = nI 1) := by
  refine CS.of (by decide) (Nat.le_of_ble_eq_true rfl) ?_
  generalize hQe : (fun (r : Option Value) (v' : Nat → Int32) => r = some (.int (nI 0)) ∧ okv v' ∧ mdf [66] v v' ∧ v' 66 = nI 1) = Q
  have hQ : ∀ u, okv u → mdf [66] v u → u 66 = nI 1 → Q (some (.int (nI 0))) u := by rw [← hQe]; exact fun u h1 h2 f0 => ⟨rfl, h1, h2, f0⟩
  clear hQe
  have hm : mdf [66] v v := mdf.rf
  show ST G mi_Mo_key 0 [(0, .ref 373), (1, .int (nI 0)), (2, .int y), (3, .int z)] [] v 0 0 Q
  refine ST.lift (fun _ _ k => T_aload_n (v := .ref 373) d_Mo_key_0 rfl (Or.inr ⟨_, rfl⟩) k) ?_
  refine ST.lift (fun _ _ k => T_iconst (v := nI 0) d_Mo_key_1 (by decide) k) ?_
  refine S_putfield (v' := va_up v 66 (nI 0)) d_Mo_key_2 (fp_Mo_316 _) (w373 _) (Nat.le_of_ble_eq_true rfl) ⟨rfl, rfl⟩ (u373_0 _ _) ?_
  have hv2 := hv.off (j := 66) (x := (nI 0)) (by decide)
  have hm3 := hm.go (mdf.up (v := v) (j := 66) (x := (nI 0))) (by intro i hi; simp only [List.mem_cons, List.not_mem_nil, or_false] at hi ⊢ <;> omega)
  have e_u1 : (va_up v 66 (nI 0)) 66 = (nI 0) := by simp [va_up]
  generalize va_up v 66 (nI 0) = u1 at hv2 hm3 e_u1 ⊢
  refine ST.lift (fun _ _ k => T_iload_n d_Mo_key_5 rfl k) ?_
  refine S_static (as := [.int (nI 0)]) (rest := []) d_Mo_key_6 rfl (jw_Mo_isSession.jo (by decide)) lm_Mo_545 jt_Mo_isSession rfl (Nat.le_of_ble_eq_true rfl) (by decide) (by decide) (c_Mo_isSession G u1 0 (by omega)) (fun r v' hq => ?_)
  rw [hq.1, hq.2]
  clear hq r v'
  show ST G mi_Mo_key 9 [(0, .ref 373), (1, .int (nI 0)), (2, .int y), (3, .int z)] [.int (nI 1)] u1 0 0 _
  refine S_if_eqN d_Mo_key_9 rfl (by omega) (fun c => by first | exact absurd c (by omega) | exact c.elim | exact absurd c (by decide) | exact absurd (by assumption) c | exact absurd c (by assumption) | exact absurd c (Int32.not_le.mpr (by assumption))) (fun _ => ?_)
  refine ST.lift (fun _ _ k => T_iload_n d_Mo_key_12 rfl k) ?_
  refine S_if_lt d_Mo_key_13 rfl (fun _ => ?_) (fun c => by first | exact absurd c (by omega) | exact c.elim | exact absurd c (by decide) | exact absurd (by assumption) c | exact absurd c (by assumption) | exact absurd c (Int32.not_le.mpr (by assumption)))
  refine ST.lift (fun _ _ k => T_iconst (v := nI 0) d_Mo_key_35 (by decide) k) ?_
  refine ST.lift (fun _ _ k => T_istore (L' := [(4, .int (nI 0)), (0, .ref 373), (1, .int (nI 0)), (2, .int y), (3, .int z)]) d_Mo_key_36 (by decide) rfl k) ?_
  refine ST.lift (fun _ _ k => T_iload d_Mo_key_38 rfl k) ?_
  refine S_if_eqN d_Mo_key_40 rfl (by omega) (fun _ => ?_) (fun c => by first | exact absurd c (by omega) | exact c.elim | exact absurd c (by decide) | exact absurd (by assumption) c | exact absurd c (by assumption) | exact absurd c (Int32.not_le.mpr (by assumption)))
  refine ST.lift (fun _ _ k => T_iload d_Mo_key_59 rfl k) ?_
  refine S_if_eqN d_Mo_key_61 rfl (by omega) (fun _ => ?_) (fun c => by first | exact absurd c (by omega) | exact c.elim | exact absurd c (by decide) | exact absurd (by assumption) c | exact absurd c (by assumption) | exact absurd c (Int32.not_le.mpr (by assumption)))
  refine ST.lift (fun _ _ k => T_iload d_Mo_key_72 rfl k) ?_
  refine S_if_neN d_Mo_key_74 rfl (by omega) (fun c => by first | exact absurd c (by omega) | exact c.elim | exact absurd c (by decide) | exact absurd (by assumption) c | exact absurd c (by assumption) | exact absurd c (Int32.not_le.mpr (by assumption))) (fun _ => ?_)
  refine ST.lift (fun _ _ k => T_aload_n (v := .ref 373) d_Mo_key_77 rfl (Or.inr ⟨_, rfl⟩) k) ?_
  refine ST.lift (fun _ _ k => T_iconst (v := nI 1) d_Mo_key_78 (by decide) k) ?_
  refine S_putfield (v' := va_up u1 66 (nI 1)) d_Mo_key_79 (fp_Mo_316 _) (w373 _) (Nat.le_of_ble_eq_true rfl) ⟨rfl, rfl⟩ (u373_0 _ _) ?_
  have hv5 := hv2.off (j := 66) (x := (nI 1)) (by decide)
  have hm6 := hm3.go (mdf.up (v := u1) (j := 66) (x := (nI 1))) (by intro i hi; simp only [List.mem_cons, List.not_mem_nil, or_false] at hi ⊢ <;> omega)
  have e_u4 : (va_up u1 66 (nI 1)) 66 = (nI 1) := by simp [va_up]
  generalize va_up u1 66 (nI 1) = u4 at hv5 hm6 e_u4 ⊢
  refine ST.lift (fun _ _ k => T_iconst (v := nI 0) d_Mo_key_82 (by decide) k) ?_
  refine S_topi (y := nI 0) (congrArg nI (by omega)) ?_
  exact S_ret d_Mo_key_83 rfl rfl (by decide) (by decide) (hQ _ hv5 hm6 (e_u4.trans (congrArg nI (by omega))))
set_option maxRecDepth 100000 in
set_option maxHeartbeats 4000000 in
theorem c_Mo_key_0_far (G : GX) (v : Nat → Int32) (y : Int32) (i : Nat) (b_i : i < 2147483648) (hi : 64 ≤ i) (hv : okv v) : CS G mi_Mo_key [.ref 373, .int (nI 0), .int y, .int (nI i)] v (fun r v' => r = some (.int (nI 0)) ∧ okv v' ∧ mdf [66] v v' ∧ v' 66 = nI 1) := by
  refine CS.of (by decide) (Nat.le_of_ble_eq_true rfl) ?_
  generalize hQe : (fun (r : Option Value) (v' : Nat → Int32) => r = some (.int (nI 0)) ∧ okv v' ∧ mdf [66] v v' ∧ v' 66 = nI 1) = Q
  have hQ : ∀ u, okv u → mdf [66] v u → u 66 = nI 1 → Q (some (.int (nI 0))) u := by rw [← hQe]; exact fun u h1 h2 f0 => ⟨rfl, h1, h2, f0⟩
  clear hQe
  have hm : mdf [66] v v := mdf.rf
  show ST G mi_Mo_key 0 [(0, .ref 373), (1, .int (nI 0)), (2, .int y), (3, .int (nI i))] [] v 0 0 Q
  refine ST.lift (fun _ _ k => T_aload_n (v := .ref 373) d_Mo_key_0 rfl (Or.inr ⟨_, rfl⟩) k) ?_
  refine ST.lift (fun _ _ k => T_iconst (v := nI 0) d_Mo_key_1 (by decide) k) ?_
  refine S_putfield (v' := va_up v 66 (nI 0)) d_Mo_key_2 (fp_Mo_316 _) (w373 _) (Nat.le_of_ble_eq_true rfl) ⟨rfl, rfl⟩ (u373_0 _ _) ?_
  have hv2 := hv.off (j := 66) (x := (nI 0)) (by decide)
  have hm3 := hm.go (mdf.up (v := v) (j := 66) (x := (nI 0))) (by intro i hi; simp only [List.mem_cons, List.not_mem_nil, or_false] at hi ⊢ <;> omega)
  have e_u1 : (va_up v 66 (nI 0)) 66 = (nI 0) := by simp [va_up]
  generalize va_up v 66 (nI 0) = u1 at hv2 hm3 e_u1 ⊢
  refine ST.lift (fun _ _ k => T_iload_n d_Mo_key_5 rfl k) ?_
  refine S_static (as := [.int (nI 0)]) (rest := []) d_Mo_key_6 rfl (jw_Mo_isSession.jo (by decide)) lm_Mo_545 jt_Mo_isSession rfl (Nat.le_of_ble_eq_true rfl) (by decide) (by decide) (c_Mo_isSession G u1 0 (by omega)) (fun r v' hq => ?_)
  rw [hq.1, hq.2]
  clear hq r v'
  show ST G mi_Mo_key 9 [(0, .ref 373), (1, .int (nI 0)), (2, .int y), (3, .int (nI i))] [.int (nI 1)] u1 0 0 _
  refine S_if_eqN d_Mo_key_9 rfl (by omega) (fun c => by first | exact absurd c (by omega) | exact c.elim | exact absurd c (by decide) | exact absurd (by assumption) c | exact absurd c (by assumption) | exact absurd c (Int32.not_le.mpr (by assumption))) (fun _ => ?_)
  refine ST.lift (fun _ _ k => T_iload_n d_Mo_key_12 rfl k) ?_
  refine S_if_ltN d_Mo_key_13 rfl (by omega) (fun c => by first | exact absurd c (by omega) | exact c.elim | exact absurd c (by decide) | exact absurd (by assumption) c | exact absurd c (by assumption) | exact absurd c (Int32.not_le.mpr (by assumption))) (fun _ => ?_)
  refine ST.lift (fun _ _ k => T_iload_n d_Mo_key_16 rfl k) ?_
  refine ST.lift (fun _ _ k => T_bipush (v := nI 64) d_Mo_key_17 (by decide) k) ?_
  refine S_icmp_geN d_Mo_key_19 rfl (by omega) (by omega) (fun _ => ?_) (fun c => by first | exact absurd c (by omega) | exact c.elim | exact absurd c (by decide) | exact absurd (by assumption) c | exact absurd c (by assumption) | exact absurd c (Int32.not_le.mpr (by assumption)))
  refine ST.lift (fun _ _ k => T_iconst (v := nI 0) d_Mo_key_35 (by decide) k) ?_
  refine ST.lift (fun _ _ k => T_istore (L' := [(4, .int (nI 0)), (0, .ref 373), (1, .int (nI 0)), (2, .int y), (3, .int (nI i))]) d_Mo_key_36 (by decide) rfl k) ?_
  refine ST.lift (fun _ _ k => T_iload d_Mo_key_38 rfl k) ?_
  refine S_if_eqN d_Mo_key_40 rfl (by omega) (fun _ => ?_) (fun c => by first | exact absurd c (by omega) | exact c.elim | exact absurd c (by decide) | exact absurd (by assumption) c | exact absurd c (by assumption) | exact absurd c (Int32.not_le.mpr (by assumption)))
  refine ST.lift (fun _ _ k => T_iload d_Mo_key_59 rfl k) ?_
  refine S_if_eqN d_Mo_key_61 rfl (by omega) (fun _ => ?_) (fun c => by first | exact absurd c (by omega) | exact c.elim | exact absurd c (by decide) | exact absurd (by assumption) c | exact absurd c (by assumption) | exact absurd c (Int32.not_le.mpr (by assumption)))
  refine ST.lift (fun _ _ k => T_iload d_Mo_key_72 rfl k) ?_
  refine S_if_neN d_Mo_key_74 rfl (by omega) (fun c => by first | exact absurd c (by omega) | exact c.elim | exact absurd c (by decide) | exact absurd (by assumption) c | exact absurd c (by assumption) | exact absurd c (Int32.not_le.mpr (by assumption))) (fun _ => ?_)
  refine ST.lift (fun _ _ k => T_aload_n (v := .ref 373) d_Mo_key_77 rfl (Or.inr ⟨_, rfl⟩) k) ?_
  refine ST.lift (fun _ _ k => T_iconst (v := nI 1) d_Mo_key_78 (by decide) k) ?_
  refine S_putfield (v' := va_up u1 66 (nI 1)) d_Mo_key_79 (fp_Mo_316 _) (w373 _) (Nat.le_of_ble_eq_true rfl) ⟨rfl, rfl⟩ (u373_0 _ _) ?_
  have hv5 := hv2.off (j := 66) (x := (nI 1)) (by decide)
  have hm6 := hm3.go (mdf.up (v := u1) (j := 66) (x := (nI 1))) (by intro i hi; simp only [List.mem_cons, List.not_mem_nil, or_false] at hi ⊢ <;> omega)
  have e_u4 : (va_up u1 66 (nI 1)) 66 = (nI 1) := by simp [va_up]
  generalize va_up u1 66 (nI 1) = u4 at hv5 hm6 e_u4 ⊢
  refine ST.lift (fun _ _ k => T_iconst (v := nI 0) d_Mo_key_82 (by decide) k) ?_
  refine S_topi (y := nI 0) (congrArg nI (by omega)) ?_
  exact S_ret d_Mo_key_83 rfl rfl (by decide) (by decide) (hQ _ hv5 hm6 (e_u4.trans (congrArg nI (by omega))))
set_option maxRecDepth 100000 in
set_option maxHeartbeats 4000000 in
theorem c_Mo_key_0_lt (G : GX) (v : Nat → Int32) (y : Int32) (i : Nat) (b_i : i < 64) (hy : y < 0) (hv : okv v) : CS G mi_Mo_key [.ref 373, .int (nI 0), .int y, .int (nI i)] v (fun r v' => r = some (.int (nI 0)) ∧ okv v' ∧ mdf [66] v v' ∧ v' 66 = nI 1) := by
  refine CS.of (by decide) (Nat.le_of_ble_eq_true rfl) ?_
  generalize hQe : (fun (r : Option Value) (v' : Nat → Int32) => r = some (.int (nI 0)) ∧ okv v' ∧ mdf [66] v v' ∧ v' 66 = nI 1) = Q
  have hQ : ∀ u, okv u → mdf [66] v u → u 66 = nI 1 → Q (some (.int (nI 0))) u := by rw [← hQe]; exact fun u h1 h2 f0 => ⟨rfl, h1, h2, f0⟩
  clear hQe
  have hm : mdf [66] v v := mdf.rf
  show ST G mi_Mo_key 0 [(0, .ref 373), (1, .int (nI 0)), (2, .int y), (3, .int (nI i))] [] v 0 0 Q
  refine ST.lift (fun _ _ k => T_aload_n (v := .ref 373) d_Mo_key_0 rfl (Or.inr ⟨_, rfl⟩) k) ?_
  refine ST.lift (fun _ _ k => T_iconst (v := nI 0) d_Mo_key_1 (by decide) k) ?_
  refine S_putfield (v' := va_up v 66 (nI 0)) d_Mo_key_2 (fp_Mo_316 _) (w373 _) (Nat.le_of_ble_eq_true rfl) ⟨rfl, rfl⟩ (u373_0 _ _) ?_
  have hv2 := hv.off (j := 66) (x := (nI 0)) (by decide)
  have hm3 := hm.go (mdf.up (v := v) (j := 66) (x := (nI 0))) (by intro i hi; simp only [List.mem_cons, List.not_mem_nil, or_false] at hi ⊢ <;> omega)
  have e_u1 : (va_up v 66 (nI 0)) 66 = (nI 0) := by simp [va_up]
  generalize va_up v 66 (nI 0) = u1 at hv2 hm3 e_u1 ⊢
  refine ST.lift (fun _ _ k => T_iload_n d_Mo_key_5 rfl k) ?_
  refine S_static (as := [.int (nI 0)]) (rest := []) d_Mo_key_6 rfl (jw_Mo_isSession.jo (by decide)) lm_Mo_545 jt_Mo_isSession rfl (Nat.le_of_ble_eq_true rfl) (by decide) (by decide) (c_Mo_isSession G u1 0 (by omega)) (fun r v' hq => ?_)
  rw [hq.1, hq.2]
  clear hq r v'
  show ST G mi_Mo_key 9 [(0, .ref 373), (1, .int (nI 0)), (2, .int y), (3, .int (nI i))] [.int (nI 1)] u1 0 0 _
  refine S_if_eqN d_Mo_key_9 rfl (by omega) (fun c => by first | exact absurd c (by omega) | exact c.elim | exact absurd c (by decide) | exact absurd (by assumption) c | exact absurd c (by assumption) | exact absurd c (Int32.not_le.mpr (by assumption))) (fun _ => ?_)
  refine ST.lift (fun _ _ k => T_iload_n d_Mo_key_12 rfl k) ?_
  refine S_if_ltN d_Mo_key_13 rfl (by omega) (fun c => by first | exact absurd c (by omega) | exact c.elim | exact absurd c (by decide) | exact absurd (by assumption) c | exact absurd c (by assumption) | exact absurd c (Int32.not_le.mpr (by assumption))) (fun _ => ?_)
  refine ST.lift (fun _ _ k => T_iload_n d_Mo_key_16 rfl k) ?_
  refine ST.lift (fun _ _ k => T_bipush (v := nI 64) d_Mo_key_17 (by decide) k) ?_
  refine S_icmp_geN d_Mo_key_19 rfl (by omega) (by omega) (fun c => by first | exact absurd c (by omega) | exact c.elim | exact absurd c (by decide) | exact absurd (by assumption) c | exact absurd c (by assumption) | exact absurd c (Int32.not_le.mpr (by assumption))) (fun _ => ?_)
  refine ST.lift (fun _ _ k => T_iload_n d_Mo_key_22 rfl k) ?_
  refine S_if_lt d_Mo_key_23 rfl (fun _ => ?_) (fun c => by first | exact absurd c (by omega) | exact c.elim | exact absurd c (by decide) | exact absurd (by assumption) c | exact absurd c (by assumption) | exact absurd c (Int32.not_le.mpr (by assumption)))
  refine ST.lift (fun _ _ k => T_iconst (v := nI 0) d_Mo_key_35 (by decide) k) ?_
  refine ST.lift (fun _ _ k => T_istore (L' := [(4, .int (nI 0)), (0, .ref 373), (1, .int (nI 0)), (2, .int y), (3, .int (nI i))]) d_Mo_key_36 (by decide) rfl k) ?_
  refine ST.lift (fun _ _ k => T_iload d_Mo_key_38 rfl k) ?_
  refine S_if_eqN d_Mo_key_40 rfl (by omega) (fun _ => ?_) (fun c => by first | exact absurd c (by omega) | exact c.elim | exact absurd c (by decide) | exact absurd (by assumption) c | exact absurd c (by assumption) | exact absurd c (Int32.not_le.mpr (by assumption)))
  refine ST.lift (fun _ _ k => T_iload d_Mo_key_59 rfl k) ?_
  refine S_if_eqN d_Mo_key_61 rfl (by omega) (fun _ => ?_) (fun c => by first | exact absurd c (by omega) | exact c.elim | exact absurd c (by decide) | exact absurd (by assumption) c | exact absurd c (by assumption) | exact absurd c (Int32.not_le.mpr (by assumption)))
  refine ST.lift (fun _ _ k => T_iload d_Mo_key_72 rfl k) ?_
  refine S_if_neN d_Mo_key_74 rfl (by omega) (fun c => by first | exact absurd c (by omega) | exact c.elim | exact absurd c (by decide) | exact absurd (by assumption) c | exact absurd c (by assumption) | exact absurd c (Int32.not_le.mpr (by assumption))) (fun _ => ?_)
  refine ST.lift (fun _ _ k => T_aload_n (v := .ref 373) d_Mo_key_77 rfl (Or.inr ⟨_, rfl⟩) k) ?_
  refine ST.lift (fun _ _ k => T_iconst (v := nI 1) d_Mo_key_78 (by decide) k) ?_
  refine S_putfield (v' := va_up u1 66 (nI 1)) d_Mo_key_79 (fp_Mo_316 _) (w373 _) (Nat.le_of_ble_eq_true rfl) ⟨rfl, rfl⟩ (u373_0 _ _) ?_
  have hv5 := hv2.off (j := 66) (x := (nI 1)) (by decide)
  have hm6 := hm3.go (mdf.up (v := u1) (j := 66) (x := (nI 1))) (by intro i hi; simp only [List.mem_cons, List.not_mem_nil, or_false] at hi ⊢ <;> omega)
  have e_u4 : (va_up u1 66 (nI 1)) 66 = (nI 1) := by simp [va_up]
  generalize va_up u1 66 (nI 1) = u4 at hv5 hm6 e_u4 ⊢
  refine ST.lift (fun _ _ k => T_iconst (v := nI 0) d_Mo_key_82 (by decide) k) ?_
  refine S_topi (y := nI 0) (congrArg nI (by omega)) ?_
  exact S_ret d_Mo_key_83 rfl rfl (by decide) (by decide) (hQ _ hv5 hm6 (e_u4.trans (congrArg nI (by omega))))
set_option maxRecDepth 100000 in
set_option maxHeartbeats 4000000 in
theorem c_Mo_key_0_gt (G : GX) (v : Nat → Int32) (y : Int32) (i : Nat) (b_i : i < 64) (h0 : ¬ y < 0) (hy : nI 3 ≤ y) (hv : okv v) : CS G mi_Mo_key [.ref 373, .int (nI 0), .int y, .int (nI i)] v (fun r v' => r = some (.int (nI 0)) ∧ okv v' ∧ mdf [66] v v' ∧ v' 66 = nI 1) := by
  refine CS.of (by decide) (Nat.le_of_ble_eq_true rfl) ?_
  generalize hQe : (fun (r : Option Value) (v' : Nat → Int32) => r = some (.int (nI 0)) ∧ okv v' ∧ mdf [66] v v' ∧ v' 66 = nI 1) = Q
  have hQ : ∀ u, okv u → mdf [66] v u → u 66 = nI 1 → Q (some (.int (nI 0))) u := by rw [← hQe]; exact fun u h1 h2 f0 => ⟨rfl, h1, h2, f0⟩
  clear hQe
  have hm : mdf [66] v v := mdf.rf
  show ST G mi_Mo_key 0 [(0, .ref 373), (1, .int (nI 0)), (2, .int y), (3, .int (nI i))] [] v 0 0 Q
  refine ST.lift (fun _ _ k => T_aload_n (v := .ref 373) d_Mo_key_0 rfl (Or.inr ⟨_, rfl⟩) k) ?_
  refine ST.lift (fun _ _ k => T_iconst (v := nI 0) d_Mo_key_1 (by decide) k) ?_
  refine S_putfield (v' := va_up v 66 (nI 0)) d_Mo_key_2 (fp_Mo_316 _) (w373 _) (Nat.le_of_ble_eq_true rfl) ⟨rfl, rfl⟩ (u373_0 _ _) ?_
  have hv2 := hv.off (j := 66) (x := (nI 0)) (by decide)
  have hm3 := hm.go (mdf.up (v := v) (j := 66) (x := (nI 0))) (by intro i hi; simp only [List.mem_cons, List.not_mem_nil, or_false] at hi ⊢ <;> omega)
  have e_u1 : (va_up v 66 (nI 0)) 66 = (nI 0) := by simp [va_up]
  generalize va_up v 66 (nI 0) = u1 at hv2 hm3 e_u1 ⊢
  refine ST.lift (fun _ _ k => T_iload_n d_Mo_key_5 rfl k) ?_
  refine S_static (as := [.int (nI 0)]) (rest := []) d_Mo_key_6 rfl (jw_Mo_isSession.jo (by decide)) lm_Mo_545 jt_Mo_isSession rfl (Nat.le_of_ble_eq_true rfl) (by decide) (by decide) (c_Mo_isSession G u1 0 (by omega)) (fun r v' hq => ?_)
  rw [hq.1, hq.2]
  clear hq r v'
  show ST G mi_Mo_key 9 [(0, .ref 373), (1, .int (nI 0)), (2, .int y), (3, .int (nI i))] [.int (nI 1)] u1 0 0 _
  refine S_if_eqN d_Mo_key_9 rfl (by omega) (fun c => by first | exact absurd c (by omega) | exact c.elim | exact absurd c (by decide) | exact absurd (by assumption) c | exact absurd c (by assumption) | exact absurd c (Int32.not_le.mpr (by assumption))) (fun _ => ?_)
  refine ST.lift (fun _ _ k => T_iload_n d_Mo_key_12 rfl k) ?_
  refine S_if_ltN d_Mo_key_13 rfl (by omega) (fun c => by first | exact absurd c (by omega) | exact c.elim | exact absurd c (by decide) | exact absurd (by assumption) c | exact absurd c (by assumption) | exact absurd c (Int32.not_le.mpr (by assumption))) (fun _ => ?_)
  refine ST.lift (fun _ _ k => T_iload_n d_Mo_key_16 rfl k) ?_
  refine ST.lift (fun _ _ k => T_bipush (v := nI 64) d_Mo_key_17 (by decide) k) ?_
  refine S_icmp_geN d_Mo_key_19 rfl (by omega) (by omega) (fun c => by first | exact absurd c (by omega) | exact c.elim | exact absurd c (by decide) | exact absurd (by assumption) c | exact absurd c (by assumption) | exact absurd c (Int32.not_le.mpr (by assumption))) (fun _ => ?_)
  refine ST.lift (fun _ _ k => T_iload_n d_Mo_key_22 rfl k) ?_
  refine S_if_lt d_Mo_key_23 rfl (fun c => by first | exact absurd c (by omega) | exact c.elim | exact absurd c (by decide) | exact absurd (by assumption) c | exact absurd c (by assumption) | exact absurd c (Int32.not_le.mpr (by assumption))) (fun _ => ?_)
  refine ST.lift (fun _ _ k => T_iload_n d_Mo_key_26 rfl k) ?_
  refine ST.lift (fun _ _ k => T_iconst (v := nI 3) d_Mo_key_27 (by decide) k) ?_
  refine S_icmp_ge d_Mo_key_28 rfl (fun _ => ?_) (fun c => by first | exact absurd c (by omega) | exact c.elim | exact absurd c (by decide) | exact absurd (by assumption) c | exact absurd c (by assumption) | exact absurd c (Int32.not_le.mpr (by assumption)))
  refine ST.lift (fun _ _ k => T_iconst (v := nI 0) d_Mo_key_35 (by decide) k) ?_
  refine ST.lift (fun _ _ k => T_istore (L' := [(4, .int (nI 0)), (0, .ref 373), (1, .int (nI 0)), (2, .int y), (3, .int (nI i))]) d_Mo_key_36 (by decide) rfl k) ?_
  refine ST.lift (fun _ _ k => T_iload d_Mo_key_38 rfl k) ?_
  refine S_if_eqN d_Mo_key_40 rfl (by omega) (fun _ => ?_) (fun c => by first | exact absurd c (by omega) | exact c.elim | exact absurd c (by decide) | exact absurd (by assumption) c | exact absurd c (by assumption) | exact absurd c (Int32.not_le.mpr (by assumption)))
  refine ST.lift (fun _ _ k => T_iload d_Mo_key_59 rfl k) ?_
  refine S_if_eqN d_Mo_key_61 rfl (by omega) (fun _ => ?_) (fun c => by first | exact absurd c (by omega) | exact c.elim | exact absurd c (by decide) | exact absurd (by assumption) c | exact absurd c (by assumption) | exact absurd c (Int32.not_le.mpr (by assumption)))
  refine ST.lift (fun _ _ k => T_iload d_Mo_key_72 rfl k) ?_
  refine S_if_neN d_Mo_key_74 rfl (by omega) (fun c => by first | exact absurd c (by omega) | exact c.elim | exact absurd c (by decide) | exact absurd (by assumption) c | exact absurd c (by assumption) | exact absurd c (Int32.not_le.mpr (by assumption))) (fun _ => ?_)
  refine ST.lift (fun _ _ k => T_aload_n (v := .ref 373) d_Mo_key_77 rfl (Or.inr ⟨_, rfl⟩) k) ?_
  refine ST.lift (fun _ _ k => T_iconst (v := nI 1) d_Mo_key_78 (by decide) k) ?_
  refine S_putfield (v' := va_up u1 66 (nI 1)) d_Mo_key_79 (fp_Mo_316 _) (w373 _) (Nat.le_of_ble_eq_true rfl) ⟨rfl, rfl⟩ (u373_0 _ _) ?_
  have hv5 := hv2.off (j := 66) (x := (nI 1)) (by decide)
  have hm6 := hm3.go (mdf.up (v := u1) (j := 66) (x := (nI 1))) (by intro i hi; simp only [List.mem_cons, List.not_mem_nil, or_false] at hi ⊢ <;> omega)
  have e_u4 : (va_up u1 66 (nI 1)) 66 = (nI 1) := by simp [va_up]
  generalize va_up u1 66 (nI 1) = u4 at hv5 hm6 e_u4 ⊢
  refine ST.lift (fun _ _ k => T_iconst (v := nI 0) d_Mo_key_82 (by decide) k) ?_
  refine S_topi (y := nI 0) (congrArg nI (by omega)) ?_
  exact S_ret d_Mo_key_83 rfl rfl (by decide) (by decide) (hQ _ hv5 hm6 (e_u4.trans (congrArg nI (by omega))))
set_option maxRecDepth 100000 in
set_option maxHeartbeats 4000000 in
theorem c_Mo_key_0_0 (G : GX) (v : Nat → Int32) (i : Nat) (b_i : i < 64) (hv : okv v) : CS G mi_Mo_key [.ref 373, .int (nI 0), .int (nI 0), .int (nI i)] v (fun r v' => ∃ z : Int32, r = some (.int z) ∧ okv v' ∧ mdf [66] v v') := by
  refine CS.of (by decide) (Nat.le_of_ble_eq_true rfl) ?_
  generalize hQe : (fun (r : Option Value) (v' : Nat → Int32) => ∃ z : Int32, r = some (.int z) ∧ okv v' ∧ mdf [66] v v') = Q
  have hQ : ∀ (z : Int32) (u : Nat → Int32), okv u → mdf [66] v u → Q (some (.int z)) u := by rw [← hQe]; exact fun z u h1 h2  => ⟨z, rfl, h1, h2⟩
  clear hQe
  have hm : mdf [66] v v := mdf.rf
  show ST G mi_Mo_key 0 [(0, .ref 373), (1, .int (nI 0)), (2, .int (nI 0)), (3, .int (nI i))] [] v 0 0 Q
  refine ST.lift (fun _ _ k => T_aload_n (v := .ref 373) d_Mo_key_0 rfl (Or.inr ⟨_, rfl⟩) k) ?_
  refine ST.lift (fun _ _ k => T_iconst (v := nI 0) d_Mo_key_1 (by decide) k) ?_
  refine S_putfield (v' := va_up v 66 (nI 0)) d_Mo_key_2 (fp_Mo_316 _) (w373 _) (Nat.le_of_ble_eq_true rfl) ⟨rfl, rfl⟩ (u373_0 _ _) ?_
  have hv2 := hv.off (j := 66) (x := (nI 0)) (by decide)
  have hm3 := hm.go (mdf.up (v := v) (j := 66) (x := (nI 0))) (by intro i hi; simp only [List.mem_cons, List.not_mem_nil, or_false] at hi ⊢ <;> omega)
  have e_u1 : (va_up v 66 (nI 0)) 66 = (nI 0) := by simp [va_up]
  generalize va_up v 66 (nI 0) = u1 at hv2 hm3 e_u1 ⊢
  refine ST.lift (fun _ _ k => T_iload_n d_Mo_key_5 rfl k) ?_
  refine S_static (as := [.int (nI 0)]) (rest := []) d_Mo_key_6 rfl (jw_Mo_isSession.jo (by decide)) lm_Mo_545 jt_Mo_isSession rfl (Nat.le_of_ble_eq_true rfl) (by decide) (by decide) (c_Mo_isSession G u1 0 (by omega)) (fun r v' hq => ?_)
  rw [hq.1, hq.2]
  clear hq r v'
  show ST G mi_Mo_key 9 [(0, .ref 373), (1, .int (nI 0)), (2, .int (nI 0)), (3, .int (nI i))] [.int (nI 1)] u1 0 0 _
  refine S_if_eqN d_Mo_key_9 rfl (by omega) (fun c => by first | exact absurd c (by omega) | exact c.elim | exact absurd c (by decide) | exact absurd (by assumption) c | exact absurd c (by assumption) | exact absurd c (Int32.not_le.mpr (by assumption))) (fun _ => ?_)
  refine ST.lift (fun _ _ k => T_iload_n d_Mo_key_12 rfl k) ?_
  refine S_if_ltN d_Mo_key_13 rfl (by omega) (fun c => by first | exact absurd c (by omega) | exact c.elim | exact absurd c (by decide) | exact absurd (by assumption) c | exact absurd c (by assumption) | exact absurd c (Int32.not_le.mpr (by assumption))) (fun _ => ?_)
  refine ST.lift (fun _ _ k => T_iload_n d_Mo_key_16 rfl k) ?_
  refine ST.lift (fun _ _ k => T_bipush (v := nI 64) d_Mo_key_17 (by decide) k) ?_
  have J36_6 : ∀ (z5 : Nat) (hz5 : z5 ≤ 1), ST G mi_Mo_key 36 [(0, .ref 373), (1, .int (nI 0)), (2, .int (nI 0)), (3, .int (nI i))] [.int (nI z5)] u1 0 0 Q := by
    intro z5 hz5
    refine ST.lift (fun _ _ k => T_istore (L' := [(4, .int (nI z5)), (0, .ref 373), (1, .int (nI 0)), (2, .int (nI 0)), (3, .int (nI i))]) d_Mo_key_36 (by decide) rfl k) ?_
    refine ST.lift (fun _ _ k => T_iload d_Mo_key_38 rfl k) ?_
    have J72_11 : ∀ (z10 : Int32), ST G mi_Mo_key 72 [(4, .int z10), (0, .ref 373), (1, .int (nI 0)), (2, .int (nI 0)), (3, .int (nI i))] [] u1 0 0 Q := by
      intro z10
      refine ST.lift (fun _ _ k => T_iload d_Mo_key_72 rfl k) ?_
      refine S_if_ne d_Mo_key_74 rfl (fun c12 => ?_) (fun c12 => ?_)
      · refine ST.lift (fun _ _ k => T_iload_n d_Mo_key_84 rfl k) ?_
        refine S_if_neN d_Mo_key_85 rfl (by omega) (fun c => by first | exact absurd c (by omega) | exact c.elim | exact absurd c (by decide) | exact absurd (by assumption) c | exact absurd c (by assumption) | exact absurd c (Int32.not_le.mpr (by assumption))) (fun _ => ?_)
        refine ST.lift (fun _ _ k => T_aload_n (v := .ref 373) d_Mo_key_88 rfl (Or.inr ⟨_, rfl⟩) k) ?_
        refine S_getfield d_Mo_key_89 fg_Mo_431 (w373 _) rfl ?_
        refine ST.lift (fun _ _ k => T_bipush (v := nI 64) d_Mo_key_92 (by decide) k) ?_
        refine ST.lift (fun _ _ k => T_iload_n d_Mo_key_94 rfl k) ?_
        refine S_imulN d_Mo_key_95 ?_
        refine S_topi (y := nI 0) (by decide) ?_
        refine ST.lift (fun _ _ k => T_iload_n d_Mo_key_96 rfl k) ?_
        refine S_iaddN d_Mo_key_97 ?_
        refine S_iaload d_Mo_key_98 a437 (vp_in_nI (by omega) (by omega)) (fun z13 => ?_)
        exact S_ret d_Mo_key_99 rfl rfl (by decide) (by decide) (hQ _ _ hv2 hm3)
      · refine ST.lift (fun _ _ k => T_aload_n (v := .ref 373) d_Mo_key_77 rfl (Or.inr ⟨_, rfl⟩) k) ?_
        refine ST.lift (fun _ _ k => T_iconst (v := nI 1) d_Mo_key_78 (by decide) k) ?_
        refine S_putfield (v' := va_up u1 66 (nI 1)) d_Mo_key_79 (fp_Mo_316 _) (w373 _) (Nat.le_of_ble_eq_true rfl) ⟨rfl, rfl⟩ (u373_0 _ _) ?_
        have hv15 := hv2.off (j := 66) (x := (nI 1)) (by decide)
        have hm16 := hm3.go (mdf.up (v := u1) (j := 66) (x := (nI 1))) (by intro i hi; simp only [List.mem_cons, List.not_mem_nil, or_false] at hi ⊢ <;> omega)
        have e_u14 : (va_up u1 66 (nI 1)) 66 = (nI 1) := by simp [va_up]
        generalize va_up u1 66 (nI 1) = u14 at hv15 hm16 e_u14 ⊢
        refine ST.lift (fun _ _ k => T_iconst (v := nI 0) d_Mo_key_82 (by decide) k) ?_
        exact S_ret d_Mo_key_83 rfl rfl (by decide) (by decide) (hQ _ _ hv15 hm16)
    refine S_if_eqN d_Mo_key_40 rfl (by omega) (fun c7 => ?_) (fun c7 => ?_)
    · refine ST.lift (fun _ _ k => T_iload d_Mo_key_59 rfl k) ?_
      refine S_if_eqN d_Mo_key_61 rfl (by omega) (fun c17 => ?_) (fun c17 => ?_)
      · exact J72_11 (nI z5)
      · refine ST.lift (fun _ _ k => T_aload_n (v := .ref 373) d_Mo_key_64 rfl (Or.inr ⟨_, rfl⟩) k) ?_
        refine S_getfield d_Mo_key_65 fg_Mo_410 (w373 _) rfl ?_
        refine ST.lift (fun _ _ k => T_iload_n d_Mo_key_68 rfl k) ?_
        refine S_xload (t := 3) (k := 0) (Or.inr ⟨rfl, d_Mo_key_69⟩) rfl (w430 _) (by decide) (by decide) ?_
        refine S_topi (y := u1 120) rfl ?_
        refine ST.lift (fun _ _ k => T_istore (L' := [(4, .int (u1 120)), (0, .ref 373), (1, .int (nI 0)), (2, .int (nI 0)), (3, .int (nI i))]) d_Mo_key_70 (by decide) rfl k) ?_
        exact J72_11 (u1 120)
    · refine ST.lift (fun _ _ k => T_iload_n d_Mo_key_43 rfl k) ?_
      refine ST.lift (fun _ _ k => T_iconst (v := nI 1) d_Mo_key_44 (by decide) k) ?_
      refine S_icmp_neN d_Mo_key_45 rfl (by omega) (by omega) (fun _ => ?_) (fun c => by first | exact absurd c (by omega) | exact c.elim | exact absurd c (by decide) | exact absurd (by assumption) c | exact absurd c (by assumption) | exact absurd c (Int32.not_le.mpr (by assumption)))
      refine ST.lift (fun _ _ k => T_iload d_Mo_key_59 rfl k) ?_
      refine S_if_eqN d_Mo_key_61 rfl (by omega) (fun c18 => ?_) (fun c18 => ?_)
      · exact J72_11 (nI z5)
      · refine ST.lift (fun _ _ k => T_aload_n (v := .ref 373) d_Mo_key_64 rfl (Or.inr ⟨_, rfl⟩) k) ?_
        refine S_getfield d_Mo_key_65 fg_Mo_410 (w373 _) rfl ?_
        refine ST.lift (fun _ _ k => T_iload_n d_Mo_key_68 rfl k) ?_
        refine S_xload (t := 3) (k := 0) (Or.inr ⟨rfl, d_Mo_key_69⟩) rfl (w430 _) (by decide) (by decide) ?_
        refine S_topi (y := u1 120) rfl ?_
        refine ST.lift (fun _ _ k => T_istore (L' := [(4, .int (u1 120)), (0, .ref 373), (1, .int (nI 0)), (2, .int (nI 0)), (3, .int (nI i))]) d_Mo_key_70 (by decide) rfl k) ?_
        exact J72_11 (u1 120)
  refine S_icmp_geN d_Mo_key_19 rfl (by omega) (by omega) (fun c4 => ?_) (fun c4 => ?_)
  · refine ST.lift (fun _ _ k => T_iconst (v := nI 0) d_Mo_key_35 (by decide) k) ?_
    exact J36_6 0 (by omega)
  · refine ST.lift (fun _ _ k => T_iload_n d_Mo_key_22 rfl k) ?_
    refine S_if_ltN d_Mo_key_23 rfl (by omega) (fun c => by first | exact absurd c (by omega) | exact c.elim | exact absurd c (by decide) | exact absurd (by assumption) c | exact absurd c (by assumption) | exact absurd c (Int32.not_le.mpr (by assumption))) (fun _ => ?_)
    refine ST.lift (fun _ _ k => T_iload_n d_Mo_key_26 rfl k) ?_
    refine ST.lift (fun _ _ k => T_iconst (v := nI 3) d_Mo_key_27 (by decide) k) ?_
    refine S_icmp_geN d_Mo_key_28 rfl (by omega) (by omega) (fun c => by first | exact absurd c (by omega) | exact c.elim | exact absurd c (by decide) | exact absurd (by assumption) c | exact absurd c (by assumption) | exact absurd c (Int32.not_le.mpr (by assumption))) (fun _ => ?_)
    refine ST.lift (fun _ _ k => T_iconst (v := nI 1) d_Mo_key_31 (by decide) k) ?_
    refine ST.lift (fun _ _ k => T_goto (tgt := 36) d_Mo_key_32 rfl k) ?_
    exact J36_6 1 (by omega)
set_option maxRecDepth 100000 in
set_option maxHeartbeats 4000000 in
theorem c_Mo_key_0_0_not (G : GX) (v : Nat → Int32) (i : Nat) (b_i : i < 64) (e120 : v 120 = nI 0) (hv : okv v) : CS G mi_Mo_key [.ref 373, .int (nI 0), .int (nI 0), .int (nI i)] v (fun r v' => r = some (.int (nI 0)) ∧ okv v' ∧ mdf [66] v v' ∧ v' 66 = nI 1) := by
  refine CS.of (by decide) (Nat.le_of_ble_eq_true rfl) ?_
  generalize hQe : (fun (r : Option Value) (v' : Nat → Int32) => r = some (.int (nI 0)) ∧ okv v' ∧ mdf [66] v v' ∧ v' 66 = nI 1) = Q
  have hQ : ∀ u, okv u → mdf [66] v u → u 66 = nI 1 → Q (some (.int (nI 0))) u := by rw [← hQe]; exact fun u h1 h2 f0 => ⟨rfl, h1, h2, f0⟩
  clear hQe
  have hm : mdf [66] v v := mdf.rf
  show ST G mi_Mo_key 0 [(0, .ref 373), (1, .int (nI 0)), (2, .int (nI 0)), (3, .int (nI i))] [] v 0 0 Q
  refine ST.lift (fun _ _ k => T_aload_n (v := .ref 373) d_Mo_key_0 rfl (Or.inr ⟨_, rfl⟩) k) ?_
  refine ST.lift (fun _ _ k => T_iconst (v := nI 0) d_Mo_key_1 (by decide) k) ?_
  refine S_putfield (v' := va_up v 66 (nI 0)) d_Mo_key_2 (fp_Mo_316 _) (w373 _) (Nat.le_of_ble_eq_true rfl) ⟨rfl, rfl⟩ (u373_0 _ _) ?_
  have hv2 := hv.off (j := 66) (x := (nI 0)) (by decide)
  have hm3 := hm.go (mdf.up (v := v) (j := 66) (x := (nI 0))) (by intro i hi; simp only [List.mem_cons, List.not_mem_nil, or_false] at hi ⊢ <;> omega)
  have e_u1 : (va_up v 66 (nI 0)) 66 = (nI 0) := by simp [va_up]
  have e4 : (va_up v 66 (nI 0)) 120 = nI 0 := by simp only [va_up]; exact e120
  generalize va_up v 66 (nI 0) = u1 at hv2 hm3 e_u1 e4 ⊢
  refine ST.lift (fun _ _ k => T_iload_n d_Mo_key_5 rfl k) ?_
  refine S_static (as := [.int (nI 0)]) (rest := []) d_Mo_key_6 rfl (jw_Mo_isSession.jo (by decide)) lm_Mo_545 jt_Mo_isSession rfl (Nat.le_of_ble_eq_true rfl) (by decide) (by decide) (c_Mo_isSession G u1 0 (by omega)) (fun r v' hq => ?_)
  rw [hq.1, hq.2]
  clear hq r v'
  show ST G mi_Mo_key 9 [(0, .ref 373), (1, .int (nI 0)), (2, .int (nI 0)), (3, .int (nI i))] [.int (nI 1)] u1 0 0 _
  refine S_if_eqN d_Mo_key_9 rfl (by omega) (fun c => by first | exact absurd c (by omega) | exact c.elim | exact absurd c (by decide) | exact absurd (by assumption) c | exact absurd c (by assumption) | exact absurd c (Int32.not_le.mpr (by assumption))) (fun _ => ?_)
  refine ST.lift (fun _ _ k => T_iload_n d_Mo_key_12 rfl k) ?_
  refine S_if_ltN d_Mo_key_13 rfl (by omega) (fun c => by first | exact absurd c (by omega) | exact c.elim | exact absurd c (by decide) | exact absurd (by assumption) c | exact absurd c (by assumption) | exact absurd c (Int32.not_le.mpr (by assumption))) (fun _ => ?_)
  refine ST.lift (fun _ _ k => T_iload_n d_Mo_key_16 rfl k) ?_
  refine ST.lift (fun _ _ k => T_bipush (v := nI 64) d_Mo_key_17 (by decide) k) ?_
  refine S_icmp_geN d_Mo_key_19 rfl (by omega) (by omega) (fun c => by first | exact absurd c (by omega) | exact c.elim | exact absurd c (by decide) | exact absurd (by assumption) c | exact absurd c (by assumption) | exact absurd c (Int32.not_le.mpr (by assumption))) (fun _ => ?_)
  refine ST.lift (fun _ _ k => T_iload_n d_Mo_key_22 rfl k) ?_
  refine S_if_ltN d_Mo_key_23 rfl (by omega) (fun c => by first | exact absurd c (by omega) | exact c.elim | exact absurd c (by decide) | exact absurd (by assumption) c | exact absurd c (by assumption) | exact absurd c (Int32.not_le.mpr (by assumption))) (fun _ => ?_)
  refine ST.lift (fun _ _ k => T_iload_n d_Mo_key_26 rfl k) ?_
  refine ST.lift (fun _ _ k => T_iconst (v := nI 3) d_Mo_key_27 (by decide) k) ?_
  refine S_icmp_geN d_Mo_key_28 rfl (by omega) (by omega) (fun c => by first | exact absurd c (by omega) | exact c.elim | exact absurd c (by decide) | exact absurd (by assumption) c | exact absurd c (by assumption) | exact absurd c (Int32.not_le.mpr (by assumption))) (fun _ => ?_)
  refine ST.lift (fun _ _ k => T_iconst (v := nI 1) d_Mo_key_31 (by decide) k) ?_
  refine ST.lift (fun _ _ k => T_goto (tgt := 36) d_Mo_key_32 rfl k) ?_
  refine ST.lift (fun _ _ k => T_istore (L' := [(4, .int (nI 1)), (0, .ref 373), (1, .int (nI 0)), (2, .int (nI 0)), (3, .int (nI i))]) d_Mo_key_36 (by decide) rfl k) ?_
  refine ST.lift (fun _ _ k => T_iload d_Mo_key_38 rfl k) ?_
  refine S_if_eqN d_Mo_key_40 rfl (by omega) (fun c => by first | exact absurd c (by omega) | exact c.elim | exact absurd c (by decide) | exact absurd (by assumption) c | exact absurd c (by assumption) | exact absurd c (Int32.not_le.mpr (by assumption))) (fun _ => ?_)
  refine ST.lift (fun _ _ k => T_iload_n d_Mo_key_43 rfl k) ?_
  refine ST.lift (fun _ _ k => T_iconst (v := nI 1) d_Mo_key_44 (by decide) k) ?_
  refine S_icmp_neN d_Mo_key_45 rfl (by omega) (by omega) (fun _ => ?_) (fun c => by first | exact absurd c (by omega) | exact c.elim | exact absurd c (by decide) | exact absurd (by assumption) c | exact absurd c (by assumption) | exact absurd c (Int32.not_le.mpr (by assumption)))
  refine ST.lift (fun _ _ k => T_iload d_Mo_key_59 rfl k) ?_
  refine S_if_eqN d_Mo_key_61 rfl (by omega) (fun c => by first | exact absurd c (by omega) | exact c.elim | exact absurd c (by decide) | exact absurd (by assumption) c | exact absurd c (by assumption) | exact absurd c (Int32.not_le.mpr (by assumption))) (fun _ => ?_)
  refine ST.lift (fun _ _ k => T_aload_n (v := .ref 373) d_Mo_key_64 rfl (Or.inr ⟨_, rfl⟩) k) ?_
  refine S_getfield d_Mo_key_65 fg_Mo_410 (w373 _) rfl ?_
  refine ST.lift (fun _ _ k => T_iload_n d_Mo_key_68 rfl k) ?_
  refine S_xload (t := 3) (k := 0) (Or.inr ⟨rfl, d_Mo_key_69⟩) rfl (w430 _) (by decide) (by decide) ?_
  refine S_topi (y := u1 120) rfl ?_
  refine S_topi (y := nI 0) (e4) ?_
  refine ST.lift (fun _ _ k => T_istore (L' := [(4, .int (nI 0)), (0, .ref 373), (1, .int (nI 0)), (2, .int (nI 0)), (3, .int (nI i))]) d_Mo_key_70 (by decide) rfl k) ?_
  refine ST.lift (fun _ _ k => T_iload d_Mo_key_72 rfl k) ?_
  refine S_if_neN d_Mo_key_74 rfl (by omega) (fun c => by first | exact absurd c (by omega) | exact c.elim | exact absurd c (by decide) | exact absurd (by assumption) c | exact absurd c (by assumption) | exact absurd c (Int32.not_le.mpr (by assumption))) (fun _ => ?_)
  refine ST.lift (fun _ _ k => T_aload_n (v := .ref 373) d_Mo_key_77 rfl (Or.inr ⟨_, rfl⟩) k) ?_
  refine ST.lift (fun _ _ k => T_iconst (v := nI 1) d_Mo_key_78 (by decide) k) ?_
  refine S_putfield (v' := va_up u1 66 (nI 1)) d_Mo_key_79 (fp_Mo_316 _) (w373 _) (Nat.le_of_ble_eq_true rfl) ⟨rfl, rfl⟩ (u373_0 _ _) ?_
  have hv6 := hv2.off (j := 66) (x := (nI 1)) (by decide)
  have hm7 := hm3.go (mdf.up (v := u1) (j := 66) (x := (nI 1))) (by intro i hi; simp only [List.mem_cons, List.not_mem_nil, or_false] at hi ⊢ <;> omega)
  have e_u5 : (va_up u1 66 (nI 1)) 66 = (nI 1) := by simp [va_up]
  have e8 : (va_up u1 66 (nI 1)) 120 = nI 0 := by simp only [va_up]; exact e4
  generalize va_up u1 66 (nI 1) = u5 at hv6 hm7 e_u5 e8 ⊢
  refine ST.lift (fun _ _ k => T_iconst (v := nI 0) d_Mo_key_82 (by decide) k) ?_
  refine S_topi (y := nI 0) (congrArg nI (by omega)) ?_
  exact S_ret d_Mo_key_83 rfl rfl (by decide) (by decide) (hQ _ hv6 hm7 (e_u5.trans (congrArg nI (by omega))))
set_option maxRecDepth 100000 in
set_option maxHeartbeats 4000000 in
theorem c_Mo_key_0_1 (G : GX) (v : Nat → Int32) (i : Nat) (b_i : i < 64) (hv : okv v) : CS G mi_Mo_key [.ref 373, .int (nI 0), .int (nI 1), .int (nI i)] v (fun r v' => ∃ z : Int32, r = some (.int z) ∧ okv v' ∧ mdf [66] v v') := by
  refine CS.of (by decide) (Nat.le_of_ble_eq_true rfl) ?_
  generalize hQe : (fun (r : Option Value) (v' : Nat → Int32) => ∃ z : Int32, r = some (.int z) ∧ okv v' ∧ mdf [66] v v') = Q
  have hQ : ∀ (z : Int32) (u : Nat → Int32), okv u → mdf [66] v u → Q (some (.int z)) u := by rw [← hQe]; exact fun z u h1 h2  => ⟨z, rfl, h1, h2⟩
  clear hQe
  have hm : mdf [66] v v := mdf.rf
  show ST G mi_Mo_key 0 [(0, .ref 373), (1, .int (nI 0)), (2, .int (nI 1)), (3, .int (nI i))] [] v 0 0 Q
  refine ST.lift (fun _ _ k => T_aload_n (v := .ref 373) d_Mo_key_0 rfl (Or.inr ⟨_, rfl⟩) k) ?_
  refine ST.lift (fun _ _ k => T_iconst (v := nI 0) d_Mo_key_1 (by decide) k) ?_
  refine S_putfield (v' := va_up v 66 (nI 0)) d_Mo_key_2 (fp_Mo_316 _) (w373 _) (Nat.le_of_ble_eq_true rfl) ⟨rfl, rfl⟩ (u373_0 _ _) ?_
  have hv2 := hv.off (j := 66) (x := (nI 0)) (by decide)
  have hm3 := hm.go (mdf.up (v := v) (j := 66) (x := (nI 0))) (by intro i hi; simp only [List.mem_cons, List.not_mem_nil, or_false] at hi ⊢ <;> omega)
  have e_u1 : (va_up v 66 (nI 0)) 66 = (nI 0) := by simp [va_up]
  generalize va_up v 66 (nI 0) = u1 at hv2 hm3 e_u1 ⊢
  refine ST.lift (fun _ _ k => T_iload_n d_Mo_key_5 rfl k) ?_
  refine S_static (as := [.int (nI 0)]) (rest := []) d_Mo_key_6 rfl (jw_Mo_isSession.jo (by decide)) lm_Mo_545 jt_Mo_isSession rfl (Nat.le_of_ble_eq_true rfl) (by decide) (by decide) (c_Mo_isSession G u1 0 (by omega)) (fun r v' hq => ?_)
  rw [hq.1, hq.2]
  clear hq r v'
  show ST G mi_Mo_key 9 [(0, .ref 373), (1, .int (nI 0)), (2, .int (nI 1)), (3, .int (nI i))] [.int (nI 1)] u1 0 0 _
  refine S_if_eqN d_Mo_key_9 rfl (by omega) (fun c => by first | exact absurd c (by omega) | exact c.elim | exact absurd c (by decide) | exact absurd (by assumption) c | exact absurd c (by assumption) | exact absurd c (Int32.not_le.mpr (by assumption))) (fun _ => ?_)
  refine ST.lift (fun _ _ k => T_iload_n d_Mo_key_12 rfl k) ?_
  refine S_if_ltN d_Mo_key_13 rfl (by omega) (fun c => by first | exact absurd c (by omega) | exact c.elim | exact absurd c (by decide) | exact absurd (by assumption) c | exact absurd c (by assumption) | exact absurd c (Int32.not_le.mpr (by assumption))) (fun _ => ?_)
  refine ST.lift (fun _ _ k => T_iload_n d_Mo_key_16 rfl k) ?_
  refine ST.lift (fun _ _ k => T_bipush (v := nI 64) d_Mo_key_17 (by decide) k) ?_
  have J36_6 : ∀ (z5 : Nat) (hz5 : z5 ≤ 1), ST G mi_Mo_key 36 [(0, .ref 373), (1, .int (nI 0)), (2, .int (nI 1)), (3, .int (nI i))] [.int (nI z5)] u1 0 0 Q := by
    intro z5 hz5
    refine ST.lift (fun _ _ k => T_istore (L' := [(4, .int (nI z5)), (0, .ref 373), (1, .int (nI 0)), (2, .int (nI 1)), (3, .int (nI i))]) d_Mo_key_36 (by decide) rfl k) ?_
    refine ST.lift (fun _ _ k => T_iload d_Mo_key_38 rfl k) ?_
    have J72_10 : ∀ (z9 : Int32), ST G mi_Mo_key 72 [(4, .int z9), (0, .ref 373), (1, .int (nI 0)), (2, .int (nI 1)), (3, .int (nI i))] [] u1 0 0 Q := by
      intro z9
      refine ST.lift (fun _ _ k => T_iload d_Mo_key_72 rfl k) ?_
      refine S_if_ne d_Mo_key_74 rfl (fun c11 => ?_) (fun c11 => ?_)
      · refine ST.lift (fun _ _ k => T_iload_n d_Mo_key_84 rfl k) ?_
        refine S_if_neN d_Mo_key_85 rfl (by omega) (fun _ => ?_) (fun c => by first | exact absurd c (by omega) | exact c.elim | exact absurd c (by decide) | exact absurd (by assumption) c | exact absurd c (by assumption) | exact absurd c (Int32.not_le.mpr (by assumption)))
        refine ST.lift (fun _ _ k => T_iload_n d_Mo_key_100 rfl k) ?_
        refine ST.lift (fun _ _ k => T_iconst (v := nI 1) d_Mo_key_101 (by decide) k) ?_
        refine S_icmp_neN d_Mo_key_102 rfl (by omega) (by omega) (fun c => by first | exact absurd c (by omega) | exact c.elim | exact absurd c (by decide) | exact absurd (by assumption) c | exact absurd c (by assumption) | exact absurd c (Int32.not_le.mpr (by assumption))) (fun _ => ?_)
        refine ST.lift (fun _ _ k => T_aload_n (v := .ref 373) d_Mo_key_105 rfl (Or.inr ⟨_, rfl⟩) k) ?_
        refine S_getfield d_Mo_key_106 fg_Mo_434 (w373 _) rfl ?_
        refine ST.lift (fun _ _ k => T_bipush (v := nI 64) d_Mo_key_109 (by decide) k) ?_
        refine ST.lift (fun _ _ k => T_iload_n d_Mo_key_111 rfl k) ?_
        refine S_imulN d_Mo_key_112 ?_
        refine S_topi (y := nI 0) (by decide) ?_
        refine ST.lift (fun _ _ k => T_iload_n d_Mo_key_113 rfl k) ?_
        refine S_iaddN d_Mo_key_114 ?_
        refine S_iaload d_Mo_key_115 a438 (vp_in_nI (by omega) (by omega)) (fun z12 => ?_)
        exact S_ret d_Mo_key_116 rfl rfl (by decide) (by decide) (hQ _ _ hv2 hm3)
      · refine ST.lift (fun _ _ k => T_aload_n (v := .ref 373) d_Mo_key_77 rfl (Or.inr ⟨_, rfl⟩) k) ?_
        refine ST.lift (fun _ _ k => T_iconst (v := nI 1) d_Mo_key_78 (by decide) k) ?_
        refine S_putfield (v' := va_up u1 66 (nI 1)) d_Mo_key_79 (fp_Mo_316 _) (w373 _) (Nat.le_of_ble_eq_true rfl) ⟨rfl, rfl⟩ (u373_0 _ _) ?_
        have hv14 := hv2.off (j := 66) (x := (nI 1)) (by decide)
        have hm15 := hm3.go (mdf.up (v := u1) (j := 66) (x := (nI 1))) (by intro i hi; simp only [List.mem_cons, List.not_mem_nil, or_false] at hi ⊢ <;> omega)
        have e_u13 : (va_up u1 66 (nI 1)) 66 = (nI 1) := by simp [va_up]
        generalize va_up u1 66 (nI 1) = u13 at hv14 hm15 e_u13 ⊢
        refine ST.lift (fun _ _ k => T_iconst (v := nI 0) d_Mo_key_82 (by decide) k) ?_
        exact S_ret d_Mo_key_83 rfl rfl (by decide) (by decide) (hQ _ _ hv14 hm15)
    refine S_if_eqN d_Mo_key_40 rfl (by omega) (fun c7 => ?_) (fun c7 => ?_)
    · refine ST.lift (fun _ _ k => T_iload d_Mo_key_59 rfl k) ?_
      refine S_if_eqN d_Mo_key_61 rfl (by omega) (fun c16 => ?_) (fun c16 => ?_)
      · exact J72_10 (nI z5)
      · refine ST.lift (fun _ _ k => T_aload_n (v := .ref 373) d_Mo_key_64 rfl (Or.inr ⟨_, rfl⟩) k) ?_
        refine S_getfield d_Mo_key_65 fg_Mo_410 (w373 _) rfl ?_
        refine ST.lift (fun _ _ k => T_iload_n d_Mo_key_68 rfl k) ?_
        refine S_xload (t := 3) (k := 0) (Or.inr ⟨rfl, d_Mo_key_69⟩) rfl (w430 _) (by decide) (by decide) ?_
        refine S_topi (y := u1 120) rfl ?_
        refine ST.lift (fun _ _ k => T_istore (L' := [(4, .int (u1 120)), (0, .ref 373), (1, .int (nI 0)), (2, .int (nI 1)), (3, .int (nI i))]) d_Mo_key_70 (by decide) rfl k) ?_
        exact J72_10 (u1 120)
    · refine ST.lift (fun _ _ k => T_iload_n d_Mo_key_43 rfl k) ?_
      refine ST.lift (fun _ _ k => T_iconst (v := nI 1) d_Mo_key_44 (by decide) k) ?_
      refine S_icmp_neN d_Mo_key_45 rfl (by omega) (by omega) (fun c => by first | exact absurd c (by omega) | exact c.elim | exact absurd c (by decide) | exact absurd (by assumption) c | exact absurd c (by assumption) | exact absurd c (Int32.not_le.mpr (by assumption))) (fun _ => ?_)
      refine ST.lift (fun _ _ k => T_aload_n (v := .ref 373) d_Mo_key_48 rfl (Or.inr ⟨_, rfl⟩) k) ?_
      refine S_getfield d_Mo_key_49 fg_Mo_413 (w373 _) rfl ?_
      refine ST.lift (fun _ _ k => T_iload_n d_Mo_key_52 rfl k) ?_
      refine S_xload (t := 3) (k := 0) (Or.inr ⟨rfl, d_Mo_key_53⟩) rfl (w431 _) (by decide) (by decide) ?_
      refine S_topi (y := u1 124) rfl ?_
      refine ST.lift (fun _ _ k => T_istore (L' := [(4, .int (u1 124)), (0, .ref 373), (1, .int (nI 0)), (2, .int (nI 1)), (3, .int (nI i))]) d_Mo_key_54 (by decide) rfl k) ?_
      refine ST.lift (fun _ _ k => T_goto (tgt := 72) d_Mo_key_56 rfl k) ?_
      exact J72_10 (u1 124)
  refine S_icmp_geN d_Mo_key_19 rfl (by omega) (by omega) (fun c4 => ?_) (fun c4 => ?_)
  · refine ST.lift (fun _ _ k => T_iconst (v := nI 0) d_Mo_key_35 (by decide) k) ?_
    exact J36_6 0 (by omega)
  · refine ST.lift (fun _ _ k => T_iload_n d_Mo_key_22 rfl k) ?_
    refine S_if_ltN d_Mo_key_23 rfl (by omega) (fun c => by first | exact absurd c (by omega) | exact c.elim | exact absurd c (by decide) | exact absurd (by assumption) c | exact absurd c (by assumption) | exact absurd c (Int32.not_le.mpr (by assumption))) (fun _ => ?_)
    refine ST.lift (fun _ _ k => T_iload_n d_Mo_key_26 rfl k) ?_
    refine ST.lift (fun _ _ k => T_iconst (v := nI 3) d_Mo_key_27 (by decide) k) ?_
    refine S_icmp_geN d_Mo_key_28 rfl (by omega) (by omega) (fun c => by first | exact absurd c (by omega) | exact c.elim | exact absurd c (by decide) | exact absurd (by assumption) c | exact absurd c (by assumption) | exact absurd c (Int32.not_le.mpr (by assumption))) (fun _ => ?_)
    refine ST.lift (fun _ _ k => T_iconst (v := nI 1) d_Mo_key_31 (by decide) k) ?_
    refine ST.lift (fun _ _ k => T_goto (tgt := 36) d_Mo_key_32 rfl k) ?_
    exact J36_6 1 (by omega)
set_option maxRecDepth 100000 in
set_option maxHeartbeats 4000000 in
theorem c_Mo_key_0_1_not (G : GX) (v : Nat → Int32) (i : Nat) (b_i : i < 64) (e124 : v 124 = nI 0) (hv : okv v) : CS G mi_Mo_key [.ref 373, .int (nI 0), .int (nI 1), .int (nI i)] v (fun r v' => r = some (.int (nI 0)) ∧ okv v' ∧ mdf [66] v v' ∧ v' 66 = nI 1) := by
  refine CS.of (by decide) (Nat.le_of_ble_eq_true rfl) ?_
  generalize hQe : (fun (r : Option Value) (v' : Nat → Int32) => r = some (.int (nI 0)) ∧ okv v' ∧ mdf [66] v v' ∧ v' 66 = nI 1) = Q
  have hQ : ∀ u, okv u → mdf [66] v u → u 66 = nI 1 → Q (some (.int (nI 0))) u := by rw [← hQe]; exact fun u h1 h2 f0 => ⟨rfl, h1, h2, f0⟩
  clear hQe
  have hm : mdf [66] v v := mdf.rf
  show ST G mi_Mo_key 0 [(0, .ref 373), (1, .int (nI 0)), (2, .int (nI 1)), (3, .int (nI i))] [] v 0 0 Q
  refine ST.lift (fun _ _ k => T_aload_n (v := .ref 373) d_Mo_key_0 rfl (Or.inr ⟨_, rfl⟩) k) ?_
  refine ST.lift (fun _ _ k => T_iconst (v := nI 0) d_Mo_key_1 (by decide) k) ?_
  refine S_putfield (v' := va_up v 66 (nI 0)) d_Mo_key_2 (fp_Mo_316 _) (w373 _) (Nat.le_of_ble_eq_true rfl) ⟨rfl, rfl⟩ (u373_0 _ _) ?_
  have hv2 := hv.off (j := 66) (x := (nI 0)) (by decide)
  have hm3 := hm.go (mdf.up (v := v) (j := 66) (x := (nI 0))) (by intro i hi; simp only [List.mem_cons, List.not_mem_nil, or_false] at hi ⊢ <;> omega)
  have e_u1 : (va_up v 66 (nI 0)) 66 = (nI 0) := by simp [va_up]
  have e4 : (va_up v 66 (nI 0)) 124 = nI 0 := by simp only [va_up]; exact e124
  generalize va_up v 66 (nI 0) = u1 at hv2 hm3 e_u1 e4 ⊢
  refine ST.lift (fun _ _ k => T_iload_n d_Mo_key_5 rfl k) ?_
  refine S_static (as := [.int (nI 0)]) (rest := []) d_Mo_key_6 rfl (jw_Mo_isSession.jo (by decide)) lm_Mo_545 jt_Mo_isSession rfl (Nat.le_of_ble_eq_true rfl) (by decide) (by decide) (c_Mo_isSession G u1 0 (by omega)) (fun r v' hq => ?_)
  rw [hq.1, hq.2]
  clear hq r v'
  show ST G mi_Mo_key 9 [(0, .ref 373), (1, .int (nI 0)), (2, .int (nI 1)), (3, .int (nI i))] [.int (nI 1)] u1 0 0 _
  refine S_if_eqN d_Mo_key_9 rfl (by omega) (fun c => by first | exact absurd c (by omega) | exact c.elim | exact absurd c (by decide) | exact absurd (by assumption) c | exact absurd c (by assumption) | exact absurd c (Int32.not_le.mpr (by assumption))) (fun _ => ?_)
  refine ST.lift (fun _ _ k => T_iload_n d_Mo_key_12 rfl k) ?_
  refine S_if_ltN d_Mo_key_13 rfl (by omega) (fun c => by first | exact absurd c (by omega) | exact c.elim | exact absurd c (by decide) | exact absurd (by assumption) c | exact absurd c (by assumption) | exact absurd c (Int32.not_le.mpr (by assumption))) (fun _ => ?_)
  refine ST.lift (fun _ _ k => T_iload_n d_Mo_key_16 rfl k) ?_
  refine ST.lift (fun _ _ k => T_bipush (v := nI 64) d_Mo_key_17 (by decide) k) ?_
  refine S_icmp_geN d_Mo_key_19 rfl (by omega) (by omega) (fun c => by first | exact absurd c (by omega) | exact c.elim | exact absurd c (by decide) | exact absurd (by assumption) c | exact absurd c (by assumption) | exact absurd c (Int32.not_le.mpr (by assumption))) (fun _ => ?_)
  refine ST.lift (fun _ _ k => T_iload_n d_Mo_key_22 rfl k) ?_
  refine S_if_ltN d_Mo_key_23 rfl (by omega) (fun c => by first | exact absurd c (by omega) | exact c.elim | exact absurd c (by decide) | exact absurd (by assumption) c | exact absurd c (by assumption) | exact absurd c (Int32.not_le.mpr (by assumption))) (fun _ => ?_)
  refine ST.lift (fun _ _ k => T_iload_n d_Mo_key_26 rfl k) ?_
  refine ST.lift (fun _ _ k => T_iconst (v := nI 3) d_Mo_key_27 (by decide) k) ?_
  refine S_icmp_geN d_Mo_key_28 rfl (by omega) (by omega) (fun c => by first | exact absurd c (by omega) | exact c.elim | exact absurd c (by decide) | exact absurd (by assumption) c | exact absurd c (by assumption) | exact absurd c (Int32.not_le.mpr (by assumption))) (fun _ => ?_)
  refine ST.lift (fun _ _ k => T_iconst (v := nI 1) d_Mo_key_31 (by decide) k) ?_
  refine ST.lift (fun _ _ k => T_goto (tgt := 36) d_Mo_key_32 rfl k) ?_
  refine ST.lift (fun _ _ k => T_istore (L' := [(4, .int (nI 1)), (0, .ref 373), (1, .int (nI 0)), (2, .int (nI 1)), (3, .int (nI i))]) d_Mo_key_36 (by decide) rfl k) ?_
  refine ST.lift (fun _ _ k => T_iload d_Mo_key_38 rfl k) ?_
  refine S_if_eqN d_Mo_key_40 rfl (by omega) (fun c => by first | exact absurd c (by omega) | exact c.elim | exact absurd c (by decide) | exact absurd (by assumption) c | exact absurd c (by assumption) | exact absurd c (Int32.not_le.mpr (by assumption))) (fun _ => ?_)
  refine ST.lift (fun _ _ k => T_iload_n d_Mo_key_43 rfl k) ?_
  refine ST.lift (fun _ _ k => T_iconst (v := nI 1) d_Mo_key_44 (by decide) k) ?_
  refine S_icmp_neN d_Mo_key_45 rfl (by omega) (by omega) (fun c => by first | exact absurd c (by omega) | exact c.elim | exact absurd c (by decide) | exact absurd (by assumption) c | exact absurd c (by assumption) | exact absurd c (Int32.not_le.mpr (by assumption))) (fun _ => ?_)
  refine ST.lift (fun _ _ k => T_aload_n (v := .ref 373) d_Mo_key_48 rfl (Or.inr ⟨_, rfl⟩) k) ?_
  refine S_getfield d_Mo_key_49 fg_Mo_413 (w373 _) rfl ?_
  refine ST.lift (fun _ _ k => T_iload_n d_Mo_key_52 rfl k) ?_
  refine S_xload (t := 3) (k := 0) (Or.inr ⟨rfl, d_Mo_key_53⟩) rfl (w431 _) (by decide) (by decide) ?_
  refine S_topi (y := u1 124) rfl ?_
  refine S_topi (y := nI 0) (e4) ?_
  refine ST.lift (fun _ _ k => T_istore (L' := [(4, .int (nI 0)), (0, .ref 373), (1, .int (nI 0)), (2, .int (nI 1)), (3, .int (nI i))]) d_Mo_key_54 (by decide) rfl k) ?_
  refine ST.lift (fun _ _ k => T_goto (tgt := 72) d_Mo_key_56 rfl k) ?_
  refine ST.lift (fun _ _ k => T_iload d_Mo_key_72 rfl k) ?_
  refine S_if_neN d_Mo_key_74 rfl (by omega) (fun c => by first | exact absurd c (by omega) | exact c.elim | exact absurd c (by decide) | exact absurd (by assumption) c | exact absurd c (by assumption) | exact absurd c (Int32.not_le.mpr (by assumption))) (fun _ => ?_)
  refine ST.lift (fun _ _ k => T_aload_n (v := .ref 373) d_Mo_key_77 rfl (Or.inr ⟨_, rfl⟩) k) ?_
  refine ST.lift (fun _ _ k => T_iconst (v := nI 1) d_Mo_key_78 (by decide) k) ?_
  refine S_putfield (v' := va_up u1 66 (nI 1)) d_Mo_key_79 (fp_Mo_316 _) (w373 _) (Nat.le_of_ble_eq_true rfl) ⟨rfl, rfl⟩ (u373_0 _ _) ?_
  have hv6 := hv2.off (j := 66) (x := (nI 1)) (by decide)
  have hm7 := hm3.go (mdf.up (v := u1) (j := 66) (x := (nI 1))) (by intro i hi; simp only [List.mem_cons, List.not_mem_nil, or_false] at hi ⊢ <;> omega)
  have e_u5 : (va_up u1 66 (nI 1)) 66 = (nI 1) := by simp [va_up]
  have e8 : (va_up u1 66 (nI 1)) 124 = nI 0 := by simp only [va_up]; exact e4
  generalize va_up u1 66 (nI 1) = u5 at hv6 hm7 e_u5 e8 ⊢
  refine ST.lift (fun _ _ k => T_iconst (v := nI 0) d_Mo_key_82 (by decide) k) ?_
  refine S_topi (y := nI 0) (congrArg nI (by omega)) ?_
  exact S_ret d_Mo_key_83 rfl rfl (by decide) (by decide) (hQ _ hv6 hm7 (e_u5.trans (congrArg nI (by omega))))
set_option maxRecDepth 100000 in
set_option maxHeartbeats 4000000 in
theorem c_Mo_key_0_2 (G : GX) (v : Nat → Int32) (i : Nat) (b_i : i < 64) (hv : okv v) : CS G mi_Mo_key [.ref 373, .int (nI 0), .int (nI 2), .int (nI i)] v (fun r v' => ∃ z : Int32, r = some (.int z) ∧ okv v' ∧ mdf [66] v v') := by
  refine CS.of (by decide) (Nat.le_of_ble_eq_true rfl) ?_
  generalize hQe : (fun (r : Option Value) (v' : Nat → Int32) => ∃ z : Int32, r = some (.int z) ∧ okv v' ∧ mdf [66] v v') = Q
  have hQ : ∀ (z : Int32) (u : Nat → Int32), okv u → mdf [66] v u → Q (some (.int z)) u := by rw [← hQe]; exact fun z u h1 h2  => ⟨z, rfl, h1, h2⟩
  clear hQe
  have hm : mdf [66] v v := mdf.rf
  show ST G mi_Mo_key 0 [(0, .ref 373), (1, .int (nI 0)), (2, .int (nI 2)), (3, .int (nI i))] [] v 0 0 Q
  refine ST.lift (fun _ _ k => T_aload_n (v := .ref 373) d_Mo_key_0 rfl (Or.inr ⟨_, rfl⟩) k) ?_
  refine ST.lift (fun _ _ k => T_iconst (v := nI 0) d_Mo_key_1 (by decide) k) ?_
  refine S_putfield (v' := va_up v 66 (nI 0)) d_Mo_key_2 (fp_Mo_316 _) (w373 _) (Nat.le_of_ble_eq_true rfl) ⟨rfl, rfl⟩ (u373_0 _ _) ?_
  have hv2 := hv.off (j := 66) (x := (nI 0)) (by decide)
  have hm3 := hm.go (mdf.up (v := v) (j := 66) (x := (nI 0))) (by intro i hi; simp only [List.mem_cons, List.not_mem_nil, or_false] at hi ⊢ <;> omega)
  have e_u1 : (va_up v 66 (nI 0)) 66 = (nI 0) := by simp [va_up]
  generalize va_up v 66 (nI 0) = u1 at hv2 hm3 e_u1 ⊢
  refine ST.lift (fun _ _ k => T_iload_n d_Mo_key_5 rfl k) ?_
  refine S_static (as := [.int (nI 0)]) (rest := []) d_Mo_key_6 rfl (jw_Mo_isSession.jo (by decide)) lm_Mo_545 jt_Mo_isSession rfl (Nat.le_of_ble_eq_true rfl) (by decide) (by decide) (c_Mo_isSession G u1 0 (by omega)) (fun r v' hq => ?_)
  rw [hq.1, hq.2]
  clear hq r v'
  show ST G mi_Mo_key 9 [(0, .ref 373), (1, .int (nI 0)), (2, .int (nI 2)), (3, .int (nI i))] [.int (nI 1)] u1 0 0 _
  refine S_if_eqN d_Mo_key_9 rfl (by omega) (fun c => by first | exact absurd c (by omega) | exact c.elim | exact absurd c (by decide) | exact absurd (by assumption) c | exact absurd c (by assumption) | exact absurd c (Int32.not_le.mpr (by assumption))) (fun _ => ?_)
  refine ST.lift (fun _ _ k => T_iload_n d_Mo_key_12 rfl k) ?_
  refine S_if_ltN d_Mo_key_13 rfl (by omega) (fun c => by first | exact absurd c (by omega) | exact c.elim | exact absurd c (by decide) | exact absurd (by assumption) c | exact absurd c (by assumption) | exact absurd c (Int32.not_le.mpr (by assumption))) (fun _ => ?_)
  refine ST.lift (fun _ _ k => T_iload_n d_Mo_key_16 rfl k) ?_
  refine ST.lift (fun _ _ k => T_bipush (v := nI 64) d_Mo_key_17 (by decide) k) ?_
  have J36_6 : ∀ (z5 : Nat) (hz5 : z5 ≤ 1), ST G mi_Mo_key 36 [(0, .ref 373), (1, .int (nI 0)), (2, .int (nI 2)), (3, .int (nI i))] [.int (nI z5)] u1 0 0 Q := by
    intro z5 hz5
    refine ST.lift (fun _ _ k => T_istore (L' := [(4, .int (nI z5)), (0, .ref 373), (1, .int (nI 0)), (2, .int (nI 2)), (3, .int (nI i))]) d_Mo_key_36 (by decide) rfl k) ?_
    refine ST.lift (fun _ _ k => T_iload d_Mo_key_38 rfl k) ?_
    have J72_11 : ∀ (z10 : Int32), ST G mi_Mo_key 72 [(4, .int z10), (0, .ref 373), (1, .int (nI 0)), (2, .int (nI 2)), (3, .int (nI i))] [] u1 0 0 Q := by
      intro z10
      refine ST.lift (fun _ _ k => T_iload d_Mo_key_72 rfl k) ?_
      refine S_if_ne d_Mo_key_74 rfl (fun c12 => ?_) (fun c12 => ?_)
      · refine ST.lift (fun _ _ k => T_iload_n d_Mo_key_84 rfl k) ?_
        refine S_if_neN d_Mo_key_85 rfl (by omega) (fun _ => ?_) (fun c => by first | exact absurd c (by omega) | exact c.elim | exact absurd c (by decide) | exact absurd (by assumption) c | exact absurd c (by assumption) | exact absurd c (Int32.not_le.mpr (by assumption)))
        refine ST.lift (fun _ _ k => T_iload_n d_Mo_key_100 rfl k) ?_
        refine ST.lift (fun _ _ k => T_iconst (v := nI 1) d_Mo_key_101 (by decide) k) ?_
        refine S_icmp_neN d_Mo_key_102 rfl (by omega) (by omega) (fun _ => ?_) (fun c => by first | exact absurd c (by omega) | exact c.elim | exact absurd c (by decide) | exact absurd (by assumption) c | exact absurd c (by assumption) | exact absurd c (Int32.not_le.mpr (by assumption)))
        refine ST.lift (fun _ _ k => T_aload_n (v := .ref 373) d_Mo_key_117 rfl (Or.inr ⟨_, rfl⟩) k) ?_
        refine S_getfield d_Mo_key_118 fg_Mo_437 (w373 _) rfl ?_
        refine ST.lift (fun _ _ k => T_bipush (v := nI 64) d_Mo_key_121 (by decide) k) ?_
        refine ST.lift (fun _ _ k => T_iload_n d_Mo_key_123 rfl k) ?_
        refine S_imulN d_Mo_key_124 ?_
        refine S_topi (y := nI 0) (by decide) ?_
        refine ST.lift (fun _ _ k => T_iload_n d_Mo_key_125 rfl k) ?_
        refine S_iaddN d_Mo_key_126 ?_
        refine S_iaload d_Mo_key_127 a439 (vp_in_nI (by omega) (by omega)) (fun z13 => ?_)
        exact S_ret d_Mo_key_128 rfl rfl (by decide) (by decide) (hQ _ _ hv2 hm3)
      · refine ST.lift (fun _ _ k => T_aload_n (v := .ref 373) d_Mo_key_77 rfl (Or.inr ⟨_, rfl⟩) k) ?_
        refine ST.lift (fun _ _ k => T_iconst (v := nI 1) d_Mo_key_78 (by decide) k) ?_
        refine S_putfield (v' := va_up u1 66 (nI 1)) d_Mo_key_79 (fp_Mo_316 _) (w373 _) (Nat.le_of_ble_eq_true rfl) ⟨rfl, rfl⟩ (u373_0 _ _) ?_
        have hv15 := hv2.off (j := 66) (x := (nI 1)) (by decide)
        have hm16 := hm3.go (mdf.up (v := u1) (j := 66) (x := (nI 1))) (by intro i hi; simp only [List.mem_cons, List.not_mem_nil, or_false] at hi ⊢ <;> omega)
        have e_u14 : (va_up u1 66 (nI 1)) 66 = (nI 1) := by simp [va_up]
        generalize va_up u1 66 (nI 1) = u14 at hv15 hm16 e_u14 ⊢
        refine ST.lift (fun _ _ k => T_iconst (v := nI 0) d_Mo_key_82 (by decide) k) ?_
        exact S_ret d_Mo_key_83 rfl rfl (by decide) (by decide) (hQ _ _ hv15 hm16)
    refine S_if_eqN d_Mo_key_40 rfl (by omega) (fun c7 => ?_) (fun c7 => ?_)
    · refine ST.lift (fun _ _ k => T_iload d_Mo_key_59 rfl k) ?_
      refine S_if_eqN d_Mo_key_61 rfl (by omega) (fun c17 => ?_) (fun c17 => ?_)
      · exact J72_11 (nI z5)
      · refine ST.lift (fun _ _ k => T_aload_n (v := .ref 373) d_Mo_key_64 rfl (Or.inr ⟨_, rfl⟩) k) ?_
        refine S_getfield d_Mo_key_65 fg_Mo_410 (w373 _) rfl ?_
        refine ST.lift (fun _ _ k => T_iload_n d_Mo_key_68 rfl k) ?_
        refine S_xload (t := 3) (k := 0) (Or.inr ⟨rfl, d_Mo_key_69⟩) rfl (w430 _) (by decide) (by decide) ?_
        refine S_topi (y := u1 120) rfl ?_
        refine ST.lift (fun _ _ k => T_istore (L' := [(4, .int (u1 120)), (0, .ref 373), (1, .int (nI 0)), (2, .int (nI 2)), (3, .int (nI i))]) d_Mo_key_70 (by decide) rfl k) ?_
        exact J72_11 (u1 120)
    · refine ST.lift (fun _ _ k => T_iload_n d_Mo_key_43 rfl k) ?_
      refine ST.lift (fun _ _ k => T_iconst (v := nI 1) d_Mo_key_44 (by decide) k) ?_
      refine S_icmp_neN d_Mo_key_45 rfl (by omega) (by omega) (fun _ => ?_) (fun c => by first | exact absurd c (by omega) | exact c.elim | exact absurd c (by decide) | exact absurd (by assumption) c | exact absurd c (by assumption) | exact absurd c (Int32.not_le.mpr (by assumption)))
      refine ST.lift (fun _ _ k => T_iload d_Mo_key_59 rfl k) ?_
      refine S_if_eqN d_Mo_key_61 rfl (by omega) (fun c18 => ?_) (fun c18 => ?_)
      · exact J72_11 (nI z5)
      · refine ST.lift (fun _ _ k => T_aload_n (v := .ref 373) d_Mo_key_64 rfl (Or.inr ⟨_, rfl⟩) k) ?_
        refine S_getfield d_Mo_key_65 fg_Mo_410 (w373 _) rfl ?_
        refine ST.lift (fun _ _ k => T_iload_n d_Mo_key_68 rfl k) ?_
        refine S_xload (t := 3) (k := 0) (Or.inr ⟨rfl, d_Mo_key_69⟩) rfl (w430 _) (by decide) (by decide) ?_
        refine S_topi (y := u1 120) rfl ?_
        refine ST.lift (fun _ _ k => T_istore (L' := [(4, .int (u1 120)), (0, .ref 373), (1, .int (nI 0)), (2, .int (nI 2)), (3, .int (nI i))]) d_Mo_key_70 (by decide) rfl k) ?_
        exact J72_11 (u1 120)
  refine S_icmp_geN d_Mo_key_19 rfl (by omega) (by omega) (fun c4 => ?_) (fun c4 => ?_)
  · refine ST.lift (fun _ _ k => T_iconst (v := nI 0) d_Mo_key_35 (by decide) k) ?_
    exact J36_6 0 (by omega)
  · refine ST.lift (fun _ _ k => T_iload_n d_Mo_key_22 rfl k) ?_
    refine S_if_ltN d_Mo_key_23 rfl (by omega) (fun c => by first | exact absurd c (by omega) | exact c.elim | exact absurd c (by decide) | exact absurd (by assumption) c | exact absurd c (by assumption) | exact absurd c (Int32.not_le.mpr (by assumption))) (fun _ => ?_)
    refine ST.lift (fun _ _ k => T_iload_n d_Mo_key_26 rfl k) ?_
    refine ST.lift (fun _ _ k => T_iconst (v := nI 3) d_Mo_key_27 (by decide) k) ?_
    refine S_icmp_geN d_Mo_key_28 rfl (by omega) (by omega) (fun c => by first | exact absurd c (by omega) | exact c.elim | exact absurd c (by decide) | exact absurd (by assumption) c | exact absurd c (by assumption) | exact absurd c (Int32.not_le.mpr (by assumption))) (fun _ => ?_)
    refine ST.lift (fun _ _ k => T_iconst (v := nI 1) d_Mo_key_31 (by decide) k) ?_
    refine ST.lift (fun _ _ k => T_goto (tgt := 36) d_Mo_key_32 rfl k) ?_
    exact J36_6 1 (by omega)
set_option maxRecDepth 100000 in
set_option maxHeartbeats 4000000 in
theorem c_Mo_key_0_2_not (G : GX) (v : Nat → Int32) (i : Nat) (b_i : i < 64) (e120 : v 120 = nI 0) (hv : okv v) : CS G mi_Mo_key [.ref 373, .int (nI 0), .int (nI 2), .int (nI i)] v (fun r v' => r = some (.int (nI 0)) ∧ okv v' ∧ mdf [66] v v' ∧ v' 66 = nI 1) := by
  refine CS.of (by decide) (Nat.le_of_ble_eq_true rfl) ?_
  generalize hQe : (fun (r : Option Value) (v' : Nat → Int32) => r = some (.int (nI 0)) ∧ okv v' ∧ mdf [66] v v' ∧ v' 66 = nI 1) = Q
  have hQ : ∀ u, okv u → mdf [66] v u → u 66 = nI 1 → Q (some (.int (nI 0))) u := by rw [← hQe]; exact fun u h1 h2 f0 => ⟨rfl, h1, h2, f0⟩
  clear hQe
  have hm : mdf [66] v v := mdf.rf
  show ST G mi_Mo_key 0 [(0, .ref 373), (1, .int (nI 0)), (2, .int (nI 2)), (3, .int (nI i))] [] v 0 0 Q
  refine ST.lift (fun _ _ k => T_aload_n (v := .ref 373) d_Mo_key_0 rfl (Or.inr ⟨_, rfl⟩) k) ?_
  refine ST.lift (fun _ _ k => T_iconst (v := nI 0) d_Mo_key_1 (by decide) k) ?_
  refine S_putfield (v' := va_up v 66 (nI 0)) d_Mo_key_2 (fp_Mo_316 _) (w373 _) (Nat.le_of_ble_eq_true rfl) ⟨rfl, rfl⟩ (u373_0 _ _) ?_
  have hv2 := hv.off (j := 66) (x := (nI 0)) (by decide)
  have hm3 := hm.go (mdf.up (v := v) (j := 66) (x := (nI 0))) (by intro i hi; simp only [List.mem_cons, List.not_mem_nil, or_false] at hi ⊢ <;> omega)
  have e_u1 : (va_up v 66 (nI 0)) 66 = (nI 0) := by simp [va_up]
  have e4 : (va_up v 66 (nI 0)) 120 = nI 0 := by simp only [va_up]; exact e120
  generalize va_up v 66 (nI 0) = u1 at hv2 hm3 e_u1 e4 ⊢
  refine ST.lift (fun _ _ k => T_iload_n d_Mo_key_5 rfl k) ?_
  refine S_static (as := [.int (nI 0)]) (rest := []) d_Mo_key_6 rfl (jw_Mo_isSession.jo (by decide)) lm_Mo_545 jt_Mo_isSession rfl (Nat.le_of_ble_eq_true rfl) (by decide) (by decide) (c_Mo_isSession G u1 0 (by omega)) (fun r v' hq => ?_)
  rw [hq.1, hq.2]
  clear hq r v'
  show ST G mi_Mo_key 9 [(0, .ref 373), (1, .int (nI 0)), (2, .int (nI 2)), (3, .int (nI i))] [.int (nI 1)] u1 0 0 _
  refine S_if_eqN d_Mo_key_9 rfl (by omega) (fun c => by first | exact absurd c (by omega) | exact c.elim | exact absurd c (by decide) | exact absurd (by assumption) c | exact absurd c (by assumption) | exact absurd c (Int32.not_le.mpr (by assumption))) (fun _ => ?_)
  refine ST.lift (fun _ _ k => T_iload_n d_Mo_key_12 rfl k) ?_
  refine S_if_ltN d_Mo_key_13 rfl (by omega) (fun c => by first | exact absurd c (by omega) | exact c.elim | exact absurd c (by decide) | exact absurd (by assumption) c | exact absurd c (by assumption) | exact absurd c (Int32.not_le.mpr (by assumption))) (fun _ => ?_)
  refine ST.lift (fun _ _ k => T_iload_n d_Mo_key_16 rfl k) ?_
  refine ST.lift (fun _ _ k => T_bipush (v := nI 64) d_Mo_key_17 (by decide) k) ?_
  refine S_icmp_geN d_Mo_key_19 rfl (by omega) (by omega) (fun c => by first | exact absurd c (by omega) | exact c.elim | exact absurd c (by decide) | exact absurd (by assumption) c | exact absurd c (by assumption) | exact absurd c (Int32.not_le.mpr (by assumption))) (fun _ => ?_)
  refine ST.lift (fun _ _ k => T_iload_n d_Mo_key_22 rfl k) ?_
  refine S_if_ltN d_Mo_key_23 rfl (by omega) (fun c => by first | exact absurd c (by omega) | exact c.elim | exact absurd c (by decide) | exact absurd (by assumption) c | exact absurd c (by assumption) | exact absurd c (Int32.not_le.mpr (by assumption))) (fun _ => ?_)
  refine ST.lift (fun _ _ k => T_iload_n d_Mo_key_26 rfl k) ?_
  refine ST.lift (fun _ _ k => T_iconst (v := nI 3) d_Mo_key_27 (by decide) k) ?_
  refine S_icmp_geN d_Mo_key_28 rfl (by omega) (by omega) (fun c => by first | exact absurd c (by omega) | exact c.elim | exact absurd c (by decide) | exact absurd (by assumption) c | exact absurd c (by assumption) | exact absurd c (Int32.not_le.mpr (by assumption))) (fun _ => ?_)
  refine ST.lift (fun _ _ k => T_iconst (v := nI 1) d_Mo_key_31 (by decide) k) ?_
  refine ST.lift (fun _ _ k => T_goto (tgt := 36) d_Mo_key_32 rfl k) ?_
  refine ST.lift (fun _ _ k => T_istore (L' := [(4, .int (nI 1)), (0, .ref 373), (1, .int (nI 0)), (2, .int (nI 2)), (3, .int (nI i))]) d_Mo_key_36 (by decide) rfl k) ?_
  refine ST.lift (fun _ _ k => T_iload d_Mo_key_38 rfl k) ?_
  refine S_if_eqN d_Mo_key_40 rfl (by omega) (fun c => by first | exact absurd c (by omega) | exact c.elim | exact absurd c (by decide) | exact absurd (by assumption) c | exact absurd c (by assumption) | exact absurd c (Int32.not_le.mpr (by assumption))) (fun _ => ?_)
  refine ST.lift (fun _ _ k => T_iload_n d_Mo_key_43 rfl k) ?_
  refine ST.lift (fun _ _ k => T_iconst (v := nI 1) d_Mo_key_44 (by decide) k) ?_
  refine S_icmp_neN d_Mo_key_45 rfl (by omega) (by omega) (fun _ => ?_) (fun c => by first | exact absurd c (by omega) | exact c.elim | exact absurd c (by decide) | exact absurd (by assumption) c | exact absurd c (by assumption) | exact absurd c (Int32.not_le.mpr (by assumption)))
  refine ST.lift (fun _ _ k => T_iload d_Mo_key_59 rfl k) ?_
  refine S_if_eqN d_Mo_key_61 rfl (by omega) (fun c => by first | exact absurd c (by omega) | exact c.elim | exact absurd c (by decide) | exact absurd (by assumption) c | exact absurd c (by assumption) | exact absurd c (Int32.not_le.mpr (by assumption))) (fun _ => ?_)
  refine ST.lift (fun _ _ k => T_aload_n (v := .ref 373) d_Mo_key_64 rfl (Or.inr ⟨_, rfl⟩) k) ?_
  refine S_getfield d_Mo_key_65 fg_Mo_410 (w373 _) rfl ?_
  refine ST.lift (fun _ _ k => T_iload_n d_Mo_key_68 rfl k) ?_
  refine S_xload (t := 3) (k := 0) (Or.inr ⟨rfl, d_Mo_key_69⟩) rfl (w430 _) (by decide) (by decide) ?_
  refine S_topi (y := u1 120) rfl ?_
  refine S_topi (y := nI 0) (e4) ?_
  refine ST.lift (fun _ _ k => T_istore (L' := [(4, .int (nI 0)), (0, .ref 373), (1, .int (nI 0)), (2, .int (nI 2)), (3, .int (nI i))]) d_Mo_key_70 (by decide) rfl k) ?_
  refine ST.lift (fun _ _ k => T_iload d_Mo_key_72 rfl k) ?_
  refine S_if_neN d_Mo_key_74 rfl (by omega) (fun c => by first | exact absurd c (by omega) | exact c.elim | exact absurd c (by decide) | exact absurd (by assumption) c | exact absurd c (by assumption) | exact absurd c (Int32.not_le.mpr (by assumption))) (fun _ => ?_)
  refine ST.lift (fun _ _ k => T_aload_n (v := .ref 373) d_Mo_key_77 rfl (Or.inr ⟨_, rfl⟩) k) ?_
  refine ST.lift (fun _ _ k => T_iconst (v := nI 1) d_Mo_key_78 (by decide) k) ?_
  refine S_putfield (v' := va_up u1 66 (nI 1)) d_Mo_key_79 (fp_Mo_316 _) (w373 _) (Nat.le_of_ble_eq_true rfl) ⟨rfl, rfl⟩ (u373_0 _ _) ?_
  have hv6 := hv2.off (j := 66) (x := (nI 1)) (by decide)
  have hm7 := hm3.go (mdf.up (v := u1) (j := 66) (x := (nI 1))) (by intro i hi; simp only [List.mem_cons, List.not_mem_nil, or_false] at hi ⊢ <;> omega)
  have e_u5 : (va_up u1 66 (nI 1)) 66 = (nI 1) := by simp [va_up]
  have e8 : (va_up u1 66 (nI 1)) 120 = nI 0 := by simp only [va_up]; exact e4
  generalize va_up u1 66 (nI 1) = u5 at hv6 hm7 e_u5 e8 ⊢
  refine ST.lift (fun _ _ k => T_iconst (v := nI 0) d_Mo_key_82 (by decide) k) ?_
  refine S_topi (y := nI 0) (congrArg nI (by omega)) ?_
  exact S_ret d_Mo_key_83 rfl rfl (by decide) (by decide) (hQ _ hv6 hm7 (e_u5.trans (congrArg nI (by omega))))
set_option maxRecDepth 100000 in
set_option maxHeartbeats 4000000 in
theorem c_Mo_isWire_1_neg (G : GX) (v : Nat → Int32) (y : Int32) (z : Int32) (hz_n : z < 0) (hv : okv v) : CS G mi_Mo_isWire [.ref 373, .int (nI 1), .int y, .int z] v (fun r v' => r = some (.int (nI 0)) ∧ okv v' ∧ mdf [] v v') := by
  refine CS.of (by decide) (Nat.le_of_ble_eq_true rfl) ?_
  generalize hQe : (fun (r : Option Value) (v' : Nat → Int32) => r = some (.int (nI 0)) ∧ okv v' ∧ mdf [] v v') = Q
  have hQ : ∀ u, okv u → mdf [] v u → Q (some (.int (nI 0))) u := by rw [← hQe]; exact fun u h1 h2  => ⟨rfl, h1, h2⟩
  clear hQe
  have hm : mdf [] v v := mdf.rf
  show ST G mi_Mo_isWire 0 [(0, .ref 373), (1, .int (nI 1)), (2, .int y), (3, .int z)] [] v 0 0 Q
  refine ST.lift (fun _ _ k => T_iload_n d_Mo_isWire_0 rfl k) ?_
  refine S_static (as := [.int (nI 1)]) (rest := []) d_Mo_isWire_1 rfl (jw_Mo_isSession.jo (by decide)) lm_Mo_545 jt_Mo_isSession rfl (Nat.le_of_ble_eq_true rfl) (by decide) (by decide) (c_Mo_isSession G v 1 (by omega)) (fun r v' hq => ?_)
  rw [hq.1, hq.2]
  clear hq r v'
  show ST G mi_Mo_isWire 4 [(0, .ref 373), (1, .int (nI 1)), (2, .int y), (3, .int z)] [.int (nI 1)] v 0 0 _
  refine S_if_eqN d_Mo_isWire_4 rfl (by omega) (fun c => by first | exact absurd c (by omega) | exact c.elim | exact absurd c (by decide) | exact absurd (by assumption) c | exact absurd c (by assumption) | exact absurd c (Int32.not_le.mpr (by assumption))) (fun _ => ?_)
  refine ST.lift (fun _ _ k => T_iload_n d_Mo_isWire_7 rfl k) ?_
  refine S_if_ge d_Mo_isWire_8 rfl (fun c => by first | exact absurd c (by omega) | exact c.elim | exact absurd c (by decide) | exact absurd (by assumption) c | exact absurd c (by assumption) | exact absurd c (Int32.not_le.mpr (by assumption))) (fun _ => ?_)
  refine ST.lift (fun _ _ k => T_iconst (v := nI 0) d_Mo_isWire_11 (by decide) k) ?_
  refine S_topi (y := nI 0) (congrArg nI (by omega)) ?_
  exact S_ret d_Mo_isWire_12 rfl (nar_z (by omega)) (by decide) (by decide) (hQ _ hv hm)
set_option maxRecDepth 100000 in
set_option maxHeartbeats 4000000 in
theorem c_Mo_wire_1_neg (G : GX) (v : Nat → Int32) (y : Int32) (z : Int32) (hz_n : z < 0) (hv : okv v) : CS G mi_Mo_wire [.ref 373, .int (nI 1), .int y, .int z] v (fun r v' => r = some (.int (nI 0)) ∧ okv v' ∧ mdf [66] v v' ∧ v' 66 = nI 1) := by
  refine CS.of (by decide) (Nat.le_of_ble_eq_true rfl) ?_
  generalize hQe : (fun (r : Option Value) (v' : Nat → Int32) => r = some (.int (nI 0)) ∧ okv v' ∧ mdf [66] v v' ∧ v' 66 = nI 1) = Q
  have hQ : ∀ u, okv u → mdf [66] v u → u 66 = nI 1 → Q (some (.int (nI 0))) u := by rw [← hQe]; exact fun u h1 h2 f0 => ⟨rfl, h1, h2, f0⟩
  clear hQe
  have hm : mdf [66] v v := mdf.rf
  show ST G mi_Mo_wire 0 [(0, .ref 373), (1, .int (nI 1)), (2, .int y), (3, .int z)] [] v 0 0 Q
  refine ST.lift (fun _ _ k => T_aload_n (v := .ref 373) d_Mo_wire_0 rfl (Or.inr ⟨_, rfl⟩) k) ?_
  refine ST.lift (fun _ _ k => T_iconst (v := nI 0) d_Mo_wire_1 (by decide) k) ?_
  refine S_putfield (v' := va_up v 66 (nI 0)) d_Mo_wire_2 (fp_Mo_316 _) (w373 _) (Nat.le_of_ble_eq_true rfl) ⟨rfl, rfl⟩ (u373_0 _ _) ?_
  have hv2 := hv.off (j := 66) (x := (nI 0)) (by decide)
  have hm3 := hm.go (mdf.up (v := v) (j := 66) (x := (nI 0))) (by intro i hi; simp only [List.mem_cons, List.not_mem_nil, or_false] at hi ⊢ <;> omega)
  have e_u1 : (va_up v 66 (nI 0)) 66 = (nI 0) := by simp [va_up]
  generalize va_up v 66 (nI 0) = u1 at hv2 hm3 e_u1 ⊢
  refine ST.lift (fun _ _ k => T_aload_n (v := .ref 373) d_Mo_wire_5 rfl (Or.inr ⟨_, rfl⟩) k) ?_
  refine ST.lift (fun _ _ k => T_iload_n d_Mo_wire_6 rfl k) ?_
  refine ST.lift (fun _ _ k => T_iload_n d_Mo_wire_7 rfl k) ?_
  refine ST.lift (fun _ _ k => T_iload_n d_Mo_wire_8 rfl k) ?_
  refine S_virtual (as := [.int (nI 1), .int y, .int z]) (rest := []) (b := 373) d_Mo_wire_9 rfl (jw_Mo_isWire.jo (by decide)) lm_Mo_595 ji_Mo_isWire js_Mo_isWire (w373 _) rfl rfl rfl (Nat.le_of_ble_eq_true rfl) (by decide) (by decide) (c_Mo_isWire_1_neg G u1 y z hz_n hv2) (fun r u4 hq => ?_)
  obtain ⟨hr, hv5, hm6⟩ := hq
  rw [hr]
  clear hr r
  have hm7 := hm3.go hm6 (by intro i hi; simp only [List.mem_cons, List.not_mem_nil, or_false] at hi ⊢ <;> omega)
  have e8 : u4 66 = nI 0 := (hm6 66 (by decide)).trans e_u1
  show ST G mi_Mo_wire 12 [(0, .ref 373), (1, .int (nI 1)), (2, .int y), (3, .int z)] [.int (nI 0)] u4 0 0 _
  refine S_if_neN d_Mo_wire_12 rfl (by omega) (fun c => by first | exact absurd c (by omega) | exact c.elim | exact absurd c (by decide) | exact absurd (by assumption) c | exact absurd c (by assumption) | exact absurd c (Int32.not_le.mpr (by assumption))) (fun _ => ?_)
  refine ST.lift (fun _ _ k => T_aload_n (v := .ref 373) d_Mo_wire_15 rfl (Or.inr ⟨_, rfl⟩) k) ?_
  refine ST.lift (fun _ _ k => T_iconst (v := nI 1) d_Mo_wire_16 (by decide) k) ?_
  refine S_putfield (v' := va_up u4 66 (nI 1)) d_Mo_wire_17 (fp_Mo_316 _) (w373 _) (Nat.le_of_ble_eq_true rfl) ⟨rfl, rfl⟩ (u373_0 _ _) ?_
  have hv10 := hv5.off (j := 66) (x := (nI 1)) (by decide)
  have hm11 := hm7.go (mdf.up (v := u4) (j := 66) (x := (nI 1))) (by intro i hi; simp only [List.mem_cons, List.not_mem_nil, or_false] at hi ⊢ <;> omega)
  have e_u9 : (va_up u4 66 (nI 1)) 66 = (nI 1) := by simp [va_up]
  generalize va_up u4 66 (nI 1) = u9 at hv10 hm11 e_u9 ⊢
  refine ST.lift (fun _ _ k => T_iconst (v := nI 0) d_Mo_wire_20 (by decide) k) ?_
  refine S_topi (y := nI 0) (congrArg nI (by omega)) ?_
  exact S_ret d_Mo_wire_21 rfl rfl (by decide) (by decide) (hQ _ hv10 hm11 (e_u9.trans (congrArg nI (by omega))))
set_option maxRecDepth 100000 in
set_option maxHeartbeats 4000000 in
theorem c_Mo_tamper_1_neg (G : GX) (v : Nat → Int32) (y : Int32) (z : Int32) (mask : Int32) (hz_n : z < 0) (hv : okv v) : CS G mi_Mo_tamper [.ref 373, .int (nI 1), .int y, .int z, .int mask] v (fun r v' => r = some (.int (nI 0)) ∧ okv v' ∧ mdf [66] v v' ∧ v' 66 = nI 0) := by
  refine CS.of (by decide) (Nat.le_of_ble_eq_true rfl) ?_
  generalize hQe : (fun (r : Option Value) (v' : Nat → Int32) => r = some (.int (nI 0)) ∧ okv v' ∧ mdf [66] v v' ∧ v' 66 = nI 0) = Q
  have hQ : ∀ u, okv u → mdf [66] v u → u 66 = nI 0 → Q (some (.int (nI 0))) u := by rw [← hQe]; exact fun u h1 h2 f0 => ⟨rfl, h1, h2, f0⟩
  clear hQe
  have hm : mdf [66] v v := mdf.rf
  show ST G mi_Mo_tamper 0 [(0, .ref 373), (1, .int (nI 1)), (2, .int y), (3, .int z), (4, .int mask)] [] v 0 0 Q
  refine ST.lift (fun _ _ k => T_aload_n (v := .ref 373) d_Mo_tamper_0 rfl (Or.inr ⟨_, rfl⟩) k) ?_
  refine ST.lift (fun _ _ k => T_iconst (v := nI 0) d_Mo_tamper_1 (by decide) k) ?_
  refine S_putfield (v' := va_up v 66 (nI 0)) d_Mo_tamper_2 (fp_Mo_316 _) (w373 _) (Nat.le_of_ble_eq_true rfl) ⟨rfl, rfl⟩ (u373_0 _ _) ?_
  have hv2 := hv.off (j := 66) (x := (nI 0)) (by decide)
  have hm3 := hm.go (mdf.up (v := v) (j := 66) (x := (nI 0))) (by intro i hi; simp only [List.mem_cons, List.not_mem_nil, or_false] at hi ⊢ <;> omega)
  have e_u1 : (va_up v 66 (nI 0)) 66 = (nI 0) := by simp [va_up]
  generalize va_up v 66 (nI 0) = u1 at hv2 hm3 e_u1 ⊢
  refine ST.lift (fun _ _ k => T_aload_n (v := .ref 373) d_Mo_tamper_5 rfl (Or.inr ⟨_, rfl⟩) k) ?_
  refine ST.lift (fun _ _ k => T_iload_n d_Mo_tamper_6 rfl k) ?_
  refine ST.lift (fun _ _ k => T_iload_n d_Mo_tamper_7 rfl k) ?_
  refine ST.lift (fun _ _ k => T_iload_n d_Mo_tamper_8 rfl k) ?_
  refine S_virtual (as := [.int (nI 1), .int y, .int z]) (rest := []) (b := 373) d_Mo_tamper_9 rfl (jw_Mo_isWire.jo (by decide)) lm_Mo_595 ji_Mo_isWire js_Mo_isWire (w373 _) rfl rfl rfl (Nat.le_of_ble_eq_true rfl) (by decide) (by decide) (c_Mo_isWire_1_neg G u1 y z hz_n hv2) (fun r u4 hq => ?_)
  obtain ⟨hr, hv5, hm6⟩ := hq
  rw [hr]
  clear hr r
  have hm7 := hm3.go hm6 (by intro i hi; simp only [List.mem_cons, List.not_mem_nil, or_false] at hi ⊢ <;> omega)
  have e8 : u4 66 = nI 0 := (hm6 66 (by decide)).trans e_u1
  show ST G mi_Mo_tamper 12 [(0, .ref 373), (1, .int (nI 1)), (2, .int y), (3, .int z), (4, .int mask)] [.int (nI 0)] u4 0 0 _
  refine S_if_neN d_Mo_tamper_12 rfl (by omega) (fun c => by first | exact absurd c (by omega) | exact c.elim | exact absurd c (by decide) | exact absurd (by assumption) c | exact absurd c (by assumption) | exact absurd c (Int32.not_le.mpr (by assumption))) (fun _ => ?_)
  refine ST.lift (fun _ _ k => T_iconst (v := nI 0) d_Mo_tamper_15 (by decide) k) ?_
  refine S_topi (y := nI 0) (congrArg nI (by omega)) ?_
  exact S_ret d_Mo_tamper_16 rfl (nar_z (by omega)) (by decide) (by decide) (hQ _ hv5 hm7 (e8.trans (congrArg nI (by omega))))
set_option maxRecDepth 100000 in
set_option maxHeartbeats 4000000 in
theorem c_Mo_isWire_1_oth (G : GX) (v : Nat → Int32) (y : Int32) (i : Nat) (b_i : i < 2147483648) (h1_m : ¬ y = nI 1) (h2_m : ¬ y = nI 2) (h3_m : ¬ y = nI 3) (hv : okv v) : CS G mi_Mo_isWire [.ref 373, .int (nI 1), .int y, .int (nI i)] v (fun r v' => r = some (.int (nI 0)) ∧ okv v' ∧ mdf [] v v') := by
  refine CS.of (by decide) (Nat.le_of_ble_eq_true rfl) ?_
  generalize hQe : (fun (r : Option Value) (v' : Nat → Int32) => r = some (.int (nI 0)) ∧ okv v' ∧ mdf [] v v') = Q
  have hQ : ∀ u, okv u → mdf [] v u → Q (some (.int (nI 0))) u := by rw [← hQe]; exact fun u h1 h2  => ⟨rfl, h1, h2⟩
  clear hQe
  have hm : mdf [] v v := mdf.rf
  show ST G mi_Mo_isWire 0 [(0, .ref 373), (1, .int (nI 1)), (2, .int y), (3, .int (nI i))] [] v 0 0 Q
  refine ST.lift (fun _ _ k => T_iload_n d_Mo_isWire_0 rfl k) ?_
  refine S_static (as := [.int (nI 1)]) (rest := []) d_Mo_isWire_1 rfl (jw_Mo_isSession.jo (by decide)) lm_Mo_545 jt_Mo_isSession rfl (Nat.le_of_ble_eq_true rfl) (by decide) (by decide) (c_Mo_isSession G v 1 (by omega)) (fun r v' hq => ?_)
  rw [hq.1, hq.2]
  clear hq r v'
  show ST G mi_Mo_isWire 4 [(0, .ref 373), (1, .int (nI 1)), (2, .int y), (3, .int (nI i))] [.int (nI 1)] v 0 0 _
  refine S_if_eqN d_Mo_isWire_4 rfl (by omega) (fun c => by first | exact absurd c (by omega) | exact c.elim | exact absurd c (by decide) | exact absurd (by assumption) c | exact absurd c (by assumption) | exact absurd c (Int32.not_le.mpr (by assumption))) (fun _ => ?_)
  refine ST.lift (fun _ _ k => T_iload_n d_Mo_isWire_7 rfl k) ?_
  refine S_if_geN d_Mo_isWire_8 rfl (by omega) (fun _ => ?_) (fun c => by first | exact absurd c (by omega) | exact c.elim | exact absurd c (by decide) | exact absurd (by assumption) c | exact absurd c (by assumption) | exact absurd c (Int32.not_le.mpr (by assumption)))
  refine ST.lift (fun _ _ k => T_iload_n d_Mo_isWire_13 rfl k) ?_
  refine ST.lift (fun _ _ k => T_iconst (v := nI 1) d_Mo_isWire_14 (by decide) k) ?_
  refine S_icmp_ne d_Mo_isWire_15 rfl (fun _ => ?_) (fun c => by first | exact absurd c (by omega) | exact c.elim | exact absurd c (by decide) | exact absurd (by assumption) c | exact absurd c (by assumption) | exact absurd c (Int32.not_le.mpr (by assumption)))
  refine ST.lift (fun _ _ k => T_iload_n d_Mo_isWire_39 rfl k) ?_
  refine ST.lift (fun _ _ k => T_iconst (v := nI 2) d_Mo_isWire_40 (by decide) k) ?_
  refine S_icmp_ne d_Mo_isWire_41 rfl (fun _ => ?_) (fun c => by first | exact absurd c (by omega) | exact c.elim | exact absurd c (by decide) | exact absurd (by assumption) c | exact absurd c (by assumption) | exact absurd c (Int32.not_le.mpr (by assumption)))
  refine ST.lift (fun _ _ k => T_iload_n d_Mo_isWire_66 rfl k) ?_
  refine ST.lift (fun _ _ k => T_iconst (v := nI 3) d_Mo_isWire_67 (by decide) k) ?_
  refine S_icmp_ne d_Mo_isWire_68 rfl (fun _ => ?_) (fun c => by first | exact absurd c (by omega) | exact c.elim | exact absurd c (by decide) | exact absurd (by assumption) c | exact absurd c (by assumption) | exact absurd c (Int32.not_le.mpr (by assumption)))
  refine ST.lift (fun _ _ k => T_iconst (v := nI 0) d_Mo_isWire_90 (by decide) k) ?_
  refine S_topi (y := nI 0) (congrArg nI (by omega)) ?_
  exact S_ret d_Mo_isWire_91 rfl (nar_z (by omega)) (by decide) (by decide) (hQ _ hv hm)
set_option maxRecDepth 100000 in
set_option maxHeartbeats 4000000 in
theorem c_Mo_wire_1_oth (G : GX) (v : Nat → Int32) (y : Int32) (i : Nat) (b_i : i < 2147483648) (h1_m : ¬ y = nI 1) (h2_m : ¬ y = nI 2) (h3_m : ¬ y = nI 3) (hv : okv v) : CS G mi_Mo_wire [.ref 373, .int (nI 1), .int y, .int (nI i)] v (fun r v' => r = some (.int (nI 0)) ∧ okv v' ∧ mdf [66] v v' ∧ v' 66 = nI 1) := by
  refine CS.of (by decide) (Nat.le_of_ble_eq_true rfl) ?_
  generalize hQe : (fun (r : Option Value) (v' : Nat → Int32) => r = some (.int (nI 0)) ∧ okv v' ∧ mdf [66] v v' ∧ v' 66 = nI 1) = Q
  have hQ : ∀ u, okv u → mdf [66] v u → u 66 = nI 1 → Q (some (.int (nI 0))) u := by rw [← hQe]; exact fun u h1 h2 f0 => ⟨rfl, h1, h2, f0⟩
  clear hQe
  have hm : mdf [66] v v := mdf.rf
  show ST G mi_Mo_wire 0 [(0, .ref 373), (1, .int (nI 1)), (2, .int y), (3, .int (nI i))] [] v 0 0 Q
  refine ST.lift (fun _ _ k => T_aload_n (v := .ref 373) d_Mo_wire_0 rfl (Or.inr ⟨_, rfl⟩) k) ?_
  refine ST.lift (fun _ _ k => T_iconst (v := nI 0) d_Mo_wire_1 (by decide) k) ?_
  refine S_putfield (v' := va_up v 66 (nI 0)) d_Mo_wire_2 (fp_Mo_316 _) (w373 _) (Nat.le_of_ble_eq_true rfl) ⟨rfl, rfl⟩ (u373_0 _ _) ?_
  have hv2 := hv.off (j := 66) (x := (nI 0)) (by decide)
  have hm3 := hm.go (mdf.up (v := v) (j := 66) (x := (nI 0))) (by intro i hi; simp only [List.mem_cons, List.not_mem_nil, or_false] at hi ⊢ <;> omega)
  have e_u1 : (va_up v 66 (nI 0)) 66 = (nI 0) := by simp [va_up]
  generalize va_up v 66 (nI 0) = u1 at hv2 hm3 e_u1 ⊢
  refine ST.lift (fun _ _ k => T_aload_n (v := .ref 373) d_Mo_wire_5 rfl (Or.inr ⟨_, rfl⟩) k) ?_
  refine ST.lift (fun _ _ k => T_iload_n d_Mo_wire_6 rfl k) ?_
  refine ST.lift (fun _ _ k => T_iload_n d_Mo_wire_7 rfl k) ?_
  refine ST.lift (fun _ _ k => T_iload_n d_Mo_wire_8 rfl k) ?_
  refine S_virtual (as := [.int (nI 1), .int y, .int (nI i)]) (rest := []) (b := 373) d_Mo_wire_9 rfl (jw_Mo_isWire.jo (by decide)) lm_Mo_595 ji_Mo_isWire js_Mo_isWire (w373 _) rfl rfl rfl (Nat.le_of_ble_eq_true rfl) (by decide) (by decide) (c_Mo_isWire_1_oth G u1 y i (by omega) h1_m h2_m h3_m hv2) (fun r u4 hq => ?_)
  obtain ⟨hr, hv5, hm6⟩ := hq
  rw [hr]
  clear hr r
  have hm7 := hm3.go hm6 (by intro i hi; simp only [List.mem_cons, List.not_mem_nil, or_false] at hi ⊢ <;> omega)
  have e8 : u4 66 = nI 0 := (hm6 66 (by decide)).trans e_u1
  show ST G mi_Mo_wire 12 [(0, .ref 373), (1, .int (nI 1)), (2, .int y), (3, .int (nI i))] [.int (nI 0)] u4 0 0 _
  refine S_if_neN d_Mo_wire_12 rfl (by omega) (fun c => by first | exact absurd c (by omega) | exact c.elim | exact absurd c (by decide) | exact absurd (by assumption) c | exact absurd c (by assumption) | exact absurd c (Int32.not_le.mpr (by assumption))) (fun _ => ?_)
  refine ST.lift (fun _ _ k => T_aload_n (v := .ref 373) d_Mo_wire_15 rfl (Or.inr ⟨_, rfl⟩) k) ?_
  refine ST.lift (fun _ _ k => T_iconst (v := nI 1) d_Mo_wire_16 (by decide) k) ?_
  refine S_putfield (v' := va_up u4 66 (nI 1)) d_Mo_wire_17 (fp_Mo_316 _) (w373 _) (Nat.le_of_ble_eq_true rfl) ⟨rfl, rfl⟩ (u373_0 _ _) ?_
  have hv10 := hv5.off (j := 66) (x := (nI 1)) (by decide)
  have hm11 := hm7.go (mdf.up (v := u4) (j := 66) (x := (nI 1))) (by intro i hi; simp only [List.mem_cons, List.not_mem_nil, or_false] at hi ⊢ <;> omega)
  have e_u9 : (va_up u4 66 (nI 1)) 66 = (nI 1) := by simp [va_up]
  generalize va_up u4 66 (nI 1) = u9 at hv10 hm11 e_u9 ⊢
  refine ST.lift (fun _ _ k => T_iconst (v := nI 0) d_Mo_wire_20 (by decide) k) ?_
  refine S_topi (y := nI 0) (congrArg nI (by omega)) ?_
  exact S_ret d_Mo_wire_21 rfl rfl (by decide) (by decide) (hQ _ hv10 hm11 (e_u9.trans (congrArg nI (by omega))))
set_option maxRecDepth 100000 in
set_option maxHeartbeats 4000000 in
theorem c_Mo_tamper_1_oth (G : GX) (v : Nat → Int32) (y : Int32) (i : Nat) (b_i : i < 2147483648) (mask : Int32) (h1_m : ¬ y = nI 1) (h2_m : ¬ y = nI 2) (h3_m : ¬ y = nI 3) (hv : okv v) : CS G mi_Mo_tamper [.ref 373, .int (nI 1), .int y, .int (nI i), .int mask] v (fun r v' => r = some (.int (nI 0)) ∧ okv v' ∧ mdf [66] v v' ∧ v' 66 = nI 0) := by
  refine CS.of (by decide) (Nat.le_of_ble_eq_true rfl) ?_
  generalize hQe : (fun (r : Option Value) (v' : Nat → Int32) => r = some (.int (nI 0)) ∧ okv v' ∧ mdf [66] v v' ∧ v' 66 = nI 0) = Q
  have hQ : ∀ u, okv u → mdf [66] v u → u 66 = nI 0 → Q (some (.int (nI 0))) u := by rw [← hQe]; exact fun u h1 h2 f0 => ⟨rfl, h1, h2, f0⟩
  clear hQe
  have hm : mdf [66] v v := mdf.rf
  show ST G mi_Mo_tamper 0 [(0, .ref 373), (1, .int (nI 1)), (2, .int y), (3, .int (nI i)), (4, .int mask)] [] v 0 0 Q
  refine ST.lift (fun _ _ k => T_aload_n (v := .ref 373) d_Mo_tamper_0 rfl (Or.inr ⟨_, rfl⟩) k) ?_
  refine ST.lift (fun _ _ k => T_iconst (v := nI 0) d_Mo_tamper_1 (by decide) k) ?_
  refine S_putfield (v' := va_up v 66 (nI 0)) d_Mo_tamper_2 (fp_Mo_316 _) (w373 _) (Nat.le_of_ble_eq_true rfl) ⟨rfl, rfl⟩ (u373_0 _ _) ?_
  have hv2 := hv.off (j := 66) (x := (nI 0)) (by decide)
  have hm3 := hm.go (mdf.up (v := v) (j := 66) (x := (nI 0))) (by intro i hi; simp only [List.mem_cons, List.not_mem_nil, or_false] at hi ⊢ <;> omega)
  have e_u1 : (va_up v 66 (nI 0)) 66 = (nI 0) := by simp [va_up]
  generalize va_up v 66 (nI 0) = u1 at hv2 hm3 e_u1 ⊢
  refine ST.lift (fun _ _ k => T_aload_n (v := .ref 373) d_Mo_tamper_5 rfl (Or.inr ⟨_, rfl⟩) k) ?_
  refine ST.lift (fun _ _ k => T_iload_n d_Mo_tamper_6 rfl k) ?_
  refine ST.lift (fun _ _ k => T_iload_n d_Mo_tamper_7 rfl k) ?_
  refine ST.lift (fun _ _ k => T_iload_n d_Mo_tamper_8 rfl k) ?_
  refine S_virtual (as := [.int (nI 1), .int y, .int (nI i)]) (rest := []) (b := 373) d_Mo_tamper_9 rfl (jw_Mo_isWire.jo (by decide)) lm_Mo_595 ji_Mo_isWire js_Mo_isWire (w373 _) rfl rfl rfl (Nat.le_of_ble_eq_true rfl) (by decide) (by decide) (c_Mo_isWire_1_oth G u1 y i (by omega) h1_m h2_m h3_m hv2) (fun r u4 hq => ?_)
  obtain ⟨hr, hv5, hm6⟩ := hq
  rw [hr]
  clear hr r
  have hm7 := hm3.go hm6 (by intro i hi; simp only [List.mem_cons, List.not_mem_nil, or_false] at hi ⊢ <;> omega)
  have e8 : u4 66 = nI 0 := (hm6 66 (by decide)).trans e_u1
  show ST G mi_Mo_tamper 12 [(0, .ref 373), (1, .int (nI 1)), (2, .int y), (3, .int (nI i)), (4, .int mask)] [.int (nI 0)] u4 0 0 _
  refine S_if_neN d_Mo_tamper_12 rfl (by omega) (fun c => by first | exact absurd c (by omega) | exact c.elim | exact absurd c (by decide) | exact absurd (by assumption) c | exact absurd c (by assumption) | exact absurd c (Int32.not_le.mpr (by assumption))) (fun _ => ?_)
  refine ST.lift (fun _ _ k => T_iconst (v := nI 0) d_Mo_tamper_15 (by decide) k) ?_
  refine S_topi (y := nI 0) (congrArg nI (by omega)) ?_
  exact S_ret d_Mo_tamper_16 rfl (nar_z (by omega)) (by decide) (by decide) (hQ _ hv5 hm7 (e8.trans (congrArg nI (by omega))))
set_option maxRecDepth 100000 in
set_option maxHeartbeats 4000000 in
theorem c_Mo_isWire_1_1_not (G : GX) (v : Nat → Int32) (i : Nat) (b_i : i < 2147483648) (e97 : v 97 = nI 0) (hv : okv v) : CS G mi_Mo_isWire [.ref 373, .int (nI 1), .int (nI 1), .int (nI i)] v (fun r v' => r = some (.int (nI 0)) ∧ okv v' ∧ mdf [] v v' ∧ v' 97 = nI 0) := by
  refine CS.of (by decide) (Nat.le_of_ble_eq_true rfl) ?_
  generalize hQe : (fun (r : Option Value) (v' : Nat → Int32) => r = some (.int (nI 0)) ∧ okv v' ∧ mdf [] v v' ∧ v' 97 = nI 0) = Q
  have hQ : ∀ u, okv u → mdf [] v u → u 97 = nI 0 → Q (some (.int (nI 0))) u := by rw [← hQe]; exact fun u h1 h2 f0 => ⟨rfl, h1, h2, f0⟩
  clear hQe
  have hm : mdf [] v v := mdf.rf
  show ST G mi_Mo_isWire 0 [(0, .ref 373), (1, .int (nI 1)), (2, .int (nI 1)), (3, .int (nI i))] [] v 0 0 Q
  refine ST.lift (fun _ _ k => T_iload_n d_Mo_isWire_0 rfl k) ?_
  refine S_static (as := [.int (nI 1)]) (rest := []) d_Mo_isWire_1 rfl (jw_Mo_isSession.jo (by decide)) lm_Mo_545 jt_Mo_isSession rfl (Nat.le_of_ble_eq_true rfl) (by decide) (by decide) (c_Mo_isSession G v 1 (by omega)) (fun r v' hq => ?_)
  rw [hq.1, hq.2]
  clear hq r v'
  show ST G mi_Mo_isWire 4 [(0, .ref 373), (1, .int (nI 1)), (2, .int (nI 1)), (3, .int (nI i))] [.int (nI 1)] v 0 0 _
  refine S_if_eqN d_Mo_isWire_4 rfl (by omega) (fun c => by first | exact absurd c (by omega) | exact c.elim | exact absurd c (by decide) | exact absurd (by assumption) c | exact absurd c (by assumption) | exact absurd c (Int32.not_le.mpr (by assumption))) (fun _ => ?_)
  refine ST.lift (fun _ _ k => T_iload_n d_Mo_isWire_7 rfl k) ?_
  refine S_if_geN d_Mo_isWire_8 rfl (by omega) (fun _ => ?_) (fun c => by first | exact absurd c (by omega) | exact c.elim | exact absurd c (by decide) | exact absurd (by assumption) c | exact absurd c (by assumption) | exact absurd c (Int32.not_le.mpr (by assumption)))
  refine ST.lift (fun _ _ k => T_iload_n d_Mo_isWire_13 rfl k) ?_
  refine ST.lift (fun _ _ k => T_iconst (v := nI 1) d_Mo_isWire_14 (by decide) k) ?_
  refine S_icmp_neN d_Mo_isWire_15 rfl (by omega) (by omega) (fun c => by first | exact absurd c (by omega) | exact c.elim | exact absurd c (by decide) | exact absurd (by assumption) c | exact absurd c (by assumption) | exact absurd c (Int32.not_le.mpr (by assumption))) (fun _ => ?_)
  refine ST.lift (fun _ _ k => T_aload_n (v := .ref 373) d_Mo_isWire_18 rfl (Or.inr ⟨_, rfl⟩) k) ?_
  refine S_getfield d_Mo_isWire_19 fg_Mo_392 (w373 _) rfl ?_
  refine ST.lift (fun _ _ k => T_iload_n d_Mo_isWire_22 rfl k) ?_
  refine S_xload (t := 3) (k := 1) (Or.inr ⟨rfl, d_Mo_isWire_23⟩) rfl (w424 _) (by decide) (by decide) ?_
  refine S_topi (y := v 97) rfl ?_
  refine S_topi (y := nI 0) (e97) ?_
  refine S_if_eqN d_Mo_isWire_24 rfl (by omega) (fun _ => ?_) (fun c => by first | exact absurd c (by omega) | exact c.elim | exact absurd c (by decide) | exact absurd (by assumption) c | exact absurd c (by assumption) | exact absurd c (Int32.not_le.mpr (by assumption)))
  refine ST.lift (fun _ _ k => T_iconst (v := nI 0) d_Mo_isWire_37 (by decide) k) ?_
  refine S_topi (y := nI 0) (congrArg nI (by omega)) ?_
  exact S_ret d_Mo_isWire_38 rfl (nar_z (by omega)) (by decide) (by decide) (hQ _ hv hm (e97.trans (congrArg nI (by omega))))
set_option maxRecDepth 100000 in
set_option maxHeartbeats 4000000 in
theorem c_Mo_wire_1_1_not (G : GX) (v : Nat → Int32) (i : Nat) (b_i : i < 2147483648) (e97 : v 97 = nI 0) (hv : okv v) : CS G mi_Mo_wire [.ref 373, .int (nI 1), .int (nI 1), .int (nI i)] v (fun r v' => r = some (.int (nI 0)) ∧ okv v' ∧ mdf [66] v v' ∧ v' 66 = nI 1) := by
  refine CS.of (by decide) (Nat.le_of_ble_eq_true rfl) ?_
  generalize hQe : (fun (r : Option Value) (v' : Nat → Int32) => r = some (.int (nI 0)) ∧ okv v' ∧ mdf [66] v v' ∧ v' 66 = nI 1) = Q
  have hQ : ∀ u, okv u → mdf [66] v u → u 66 = nI 1 → Q (some (.int (nI 0))) u := by rw [← hQe]; exact fun u h1 h2 f0 => ⟨rfl, h1, h2, f0⟩
  clear hQe
  have hm : mdf [66] v v := mdf.rf
  show ST G mi_Mo_wire 0 [(0, .ref 373), (1, .int (nI 1)), (2, .int (nI 1)), (3, .int (nI i))] [] v 0 0 Q
  refine ST.lift (fun _ _ k => T_aload_n (v := .ref 373) d_Mo_wire_0 rfl (Or.inr ⟨_, rfl⟩) k) ?_
  refine ST.lift (fun _ _ k => T_iconst (v := nI 0) d_Mo_wire_1 (by decide) k) ?_
  refine S_putfield (v' := va_up v 66 (nI 0)) d_Mo_wire_2 (fp_Mo_316 _) (w373 _) (Nat.le_of_ble_eq_true rfl) ⟨rfl, rfl⟩ (u373_0 _ _) ?_
  have hv2 := hv.off (j := 66) (x := (nI 0)) (by decide)
  have hm3 := hm.go (mdf.up (v := v) (j := 66) (x := (nI 0))) (by intro i hi; simp only [List.mem_cons, List.not_mem_nil, or_false] at hi ⊢ <;> omega)
  have e_u1 : (va_up v 66 (nI 0)) 66 = (nI 0) := by simp [va_up]
  have e4 : (va_up v 66 (nI 0)) 97 = nI 0 := by simp only [va_up]; exact e97
  generalize va_up v 66 (nI 0) = u1 at hv2 hm3 e_u1 e4 ⊢
  refine ST.lift (fun _ _ k => T_aload_n (v := .ref 373) d_Mo_wire_5 rfl (Or.inr ⟨_, rfl⟩) k) ?_
  refine ST.lift (fun _ _ k => T_iload_n d_Mo_wire_6 rfl k) ?_
  refine ST.lift (fun _ _ k => T_iload_n d_Mo_wire_7 rfl k) ?_
  refine ST.lift (fun _ _ k => T_iload_n d_Mo_wire_8 rfl k) ?_
  refine S_virtual (as := [.int (nI 1), .int (nI 1), .int (nI i)]) (rest := []) (b := 373) d_Mo_wire_9 rfl (jw_Mo_isWire.jo (by decide)) lm_Mo_595 ji_Mo_isWire js_Mo_isWire (w373 _) rfl rfl rfl (Nat.le_of_ble_eq_true rfl) (by decide) (by decide) (c_Mo_isWire_1_1_not G u1 i (by omega) e4 hv2) (fun r u5 hq => ?_)
  obtain ⟨hr, hv6, hm7, fe0_u5⟩ := hq
  rw [hr]
  clear hr r
  have hm8 := hm3.go hm7 (by intro i hi; simp only [List.mem_cons, List.not_mem_nil, or_false] at hi ⊢ <;> omega)
  have e9 : u5 97 = nI 0 := (hm7 97 (by decide)).trans e4
  have e10 : u5 66 = nI 0 := (hm7 66 (by decide)).trans e_u1
  show ST G mi_Mo_wire 12 [(0, .ref 373), (1, .int (nI 1)), (2, .int (nI 1)), (3, .int (nI i))] [.int (nI 0)] u5 0 0 _
  refine S_if_neN d_Mo_wire_12 rfl (by omega) (fun c => by first | exact absurd c (by omega) | exact c.elim | exact absurd c (by decide) | exact absurd (by assumption) c | exact absurd c (by assumption) | exact absurd c (Int32.not_le.mpr (by assumption))) (fun _ => ?_)
  refine ST.lift (fun _ _ k => T_aload_n (v := .ref 373) d_Mo_wire_15 rfl (Or.inr ⟨_, rfl⟩) k) ?_
  refine ST.lift (fun _ _ k => T_iconst (v := nI 1) d_Mo_wire_16 (by decide) k) ?_
  refine S_putfield (v' := va_up u5 66 (nI 1)) d_Mo_wire_17 (fp_Mo_316 _) (w373 _) (Nat.le_of_ble_eq_true rfl) ⟨rfl, rfl⟩ (u373_0 _ _) ?_
  have hv12 := hv6.off (j := 66) (x := (nI 1)) (by decide)
  have hm13 := hm8.go (mdf.up (v := u5) (j := 66) (x := (nI 1))) (by intro i hi; simp only [List.mem_cons, List.not_mem_nil, or_false] at hi ⊢ <;> omega)
  have e_u11 : (va_up u5 66 (nI 1)) 66 = (nI 1) := by simp [va_up]
  have e14 : (va_up u5 66 (nI 1)) 97 = nI 0 := by simp only [va_up]; exact fe0_u5
  generalize va_up u5 66 (nI 1) = u11 at hv12 hm13 e_u11 e14 ⊢
  refine ST.lift (fun _ _ k => T_iconst (v := nI 0) d_Mo_wire_20 (by decide) k) ?_
  refine S_topi (y := nI 0) (congrArg nI (by omega)) ?_
  exact S_ret d_Mo_wire_21 rfl rfl (by decide) (by decide) (hQ _ hv12 hm13 (e_u11.trans (congrArg nI (by omega))))
set_option maxRecDepth 100000 in
set_option maxHeartbeats 4000000 in
theorem c_Mo_tamper_1_1_not (G : GX) (v : Nat → Int32) (i : Nat) (b_i : i < 2147483648) (mask : Int32) (e97 : v 97 = nI 0) (hv : okv v) : CS G mi_Mo_tamper [.ref 373, .int (nI 1), .int (nI 1), .int (nI i), .int mask] v (fun r v' => r = some (.int (nI 0)) ∧ okv v' ∧ mdf [66] v v' ∧ v' 66 = nI 0) := by
  refine CS.of (by decide) (Nat.le_of_ble_eq_true rfl) ?_
  generalize hQe : (fun (r : Option Value) (v' : Nat → Int32) => r = some (.int (nI 0)) ∧ okv v' ∧ mdf [66] v v' ∧ v' 66 = nI 0) = Q
  have hQ : ∀ u, okv u → mdf [66] v u → u 66 = nI 0 → Q (some (.int (nI 0))) u := by rw [← hQe]; exact fun u h1 h2 f0 => ⟨rfl, h1, h2, f0⟩
  clear hQe
  have hm : mdf [66] v v := mdf.rf
  show ST G mi_Mo_tamper 0 [(0, .ref 373), (1, .int (nI 1)), (2, .int (nI 1)), (3, .int (nI i)), (4, .int mask)] [] v 0 0 Q
  refine ST.lift (fun _ _ k => T_aload_n (v := .ref 373) d_Mo_tamper_0 rfl (Or.inr ⟨_, rfl⟩) k) ?_
  refine ST.lift (fun _ _ k => T_iconst (v := nI 0) d_Mo_tamper_1 (by decide) k) ?_
  refine S_putfield (v' := va_up v 66 (nI 0)) d_Mo_tamper_2 (fp_Mo_316 _) (w373 _) (Nat.le_of_ble_eq_true rfl) ⟨rfl, rfl⟩ (u373_0 _ _) ?_
  have hv2 := hv.off (j := 66) (x := (nI 0)) (by decide)
  have hm3 := hm.go (mdf.up (v := v) (j := 66) (x := (nI 0))) (by intro i hi; simp only [List.mem_cons, List.not_mem_nil, or_false] at hi ⊢ <;> omega)
  have e_u1 : (va_up v 66 (nI 0)) 66 = (nI 0) := by simp [va_up]
  have e4 : (va_up v 66 (nI 0)) 97 = nI 0 := by simp only [va_up]; exact e97
  generalize va_up v 66 (nI 0) = u1 at hv2 hm3 e_u1 e4 ⊢
  refine ST.lift (fun _ _ k => T_aload_n (v := .ref 373) d_Mo_tamper_5 rfl (Or.inr ⟨_, rfl⟩) k) ?_
  refine ST.lift (fun _ _ k => T_iload_n d_Mo_tamper_6 rfl k) ?_
  refine ST.lift (fun _ _ k => T_iload_n d_Mo_tamper_7 rfl k) ?_
  refine ST.lift (fun _ _ k => T_iload_n d_Mo_tamper_8 rfl k) ?_
  refine S_virtual (as := [.int (nI 1), .int (nI 1), .int (nI i)]) (rest := []) (b := 373) d_Mo_tamper_9 rfl (jw_Mo_isWire.jo (by decide)) lm_Mo_595 ji_Mo_isWire js_Mo_isWire (w373 _) rfl rfl rfl (Nat.le_of_ble_eq_true rfl) (by decide) (by decide) (c_Mo_isWire_1_1_not G u1 i (by omega) e4 hv2) (fun r u5 hq => ?_)
  obtain ⟨hr, hv6, hm7, fe0_u5⟩ := hq
  rw [hr]
  clear hr r
  have hm8 := hm3.go hm7 (by intro i hi; simp only [List.mem_cons, List.not_mem_nil, or_false] at hi ⊢ <;> omega)
  have e9 : u5 97 = nI 0 := (hm7 97 (by decide)).trans e4
  have e10 : u5 66 = nI 0 := (hm7 66 (by decide)).trans e_u1
  show ST G mi_Mo_tamper 12 [(0, .ref 373), (1, .int (nI 1)), (2, .int (nI 1)), (3, .int (nI i)), (4, .int mask)] [.int (nI 0)] u5 0 0 _
  refine S_if_neN d_Mo_tamper_12 rfl (by omega) (fun c => by first | exact absurd c (by omega) | exact c.elim | exact absurd c (by decide) | exact absurd (by assumption) c | exact absurd c (by assumption) | exact absurd c (Int32.not_le.mpr (by assumption))) (fun _ => ?_)
  refine ST.lift (fun _ _ k => T_iconst (v := nI 0) d_Mo_tamper_15 (by decide) k) ?_
  refine S_topi (y := nI 0) (congrArg nI (by omega)) ?_
  exact S_ret d_Mo_tamper_16 rfl (nar_z (by omega)) (by decide) (by decide) (hQ _ hv6 hm8 (e10.trans (congrArg nI (by omega))))
set_option maxRecDepth 100000 in
set_option maxHeartbeats 4000000 in
theorem c_Mo_isWire_1_2_not (G : GX) (v : Nat → Int32) (i : Nat) (b_i : i < 2147483648) (e101 : v 101 = nI 0) (hv : okv v) : CS G mi_Mo_isWire [.ref 373, .int (nI 1), .int (nI 2), .int (nI i)] v (fun r v' => r = some (.int (nI 0)) ∧ okv v' ∧ mdf [] v v' ∧ v' 101 = nI 0) := by
  refine CS.of (by decide) (Nat.le_of_ble_eq_true rfl) ?_
  generalize hQe : (fun (r : Option Value) (v' : Nat → Int32) => r = some (.int (nI 0)) ∧ okv v' ∧ mdf [] v v' ∧ v' 101 = nI 0) = Q
  have hQ : ∀ u, okv u → mdf [] v u → u 101 = nI 0 → Q (some (.int (nI 0))) u := by rw [← hQe]; exact fun u h1 h2 f0 => ⟨rfl, h1, h2, f0⟩
  clear hQe
  have hm : mdf [] v v := mdf.rf
  show ST G mi_Mo_isWire 0 [(0, .ref 373), (1, .int (nI 1)), (2, .int (nI 2)), (3, .int (nI i))] [] v 0 0 Q
  refine ST.lift (fun _ _ k => T_iload_n d_Mo_isWire_0 rfl k) ?_
  refine S_static (as := [.int (nI 1)]) (rest := []) d_Mo_isWire_1 rfl (jw_Mo_isSession.jo (by decide)) lm_Mo_545 jt_Mo_isSession rfl (Nat.le_of_ble_eq_true rfl) (by decide) (by decide) (c_Mo_isSession G v 1 (by omega)) (fun r v' hq => ?_)
  rw [hq.1, hq.2]
  clear hq r v'
  show ST G mi_Mo_isWire 4 [(0, .ref 373), (1, .int (nI 1)), (2, .int (nI 2)), (3, .int (nI i))] [.int (nI 1)] v 0 0 _
  refine S_if_eqN d_Mo_isWire_4 rfl (by omega) (fun c => by first | exact absurd c (by omega) | exact c.elim | exact absurd c (by decide) | exact absurd (by assumption) c | exact absurd c (by assumption) | exact absurd c (Int32.not_le.mpr (by assumption))) (fun _ => ?_)
  refine ST.lift (fun _ _ k => T_iload_n d_Mo_isWire_7 rfl k) ?_
  refine S_if_geN d_Mo_isWire_8 rfl (by omega) (fun _ => ?_) (fun c => by first | exact absurd c (by omega) | exact c.elim | exact absurd c (by decide) | exact absurd (by assumption) c | exact absurd c (by assumption) | exact absurd c (Int32.not_le.mpr (by assumption)))
  refine ST.lift (fun _ _ k => T_iload_n d_Mo_isWire_13 rfl k) ?_
  refine ST.lift (fun _ _ k => T_iconst (v := nI 1) d_Mo_isWire_14 (by decide) k) ?_
  refine S_icmp_neN d_Mo_isWire_15 rfl (by omega) (by omega) (fun _ => ?_) (fun c => by first | exact absurd c (by omega) | exact c.elim | exact absurd c (by decide) | exact absurd (by assumption) c | exact absurd c (by assumption) | exact absurd c (Int32.not_le.mpr (by assumption)))
  refine ST.lift (fun _ _ k => T_iload_n d_Mo_isWire_39 rfl k) ?_
  refine ST.lift (fun _ _ k => T_iconst (v := nI 2) d_Mo_isWire_40 (by decide) k) ?_
  refine S_icmp_neN d_Mo_isWire_41 rfl (by omega) (by omega) (fun c => by first | exact absurd c (by omega) | exact c.elim | exact absurd c (by decide) | exact absurd (by assumption) c | exact absurd c (by assumption) | exact absurd c (Int32.not_le.mpr (by assumption))) (fun _ => ?_)
  refine ST.lift (fun _ _ k => T_aload_n (v := .ref 373) d_Mo_isWire_44 rfl (Or.inr ⟨_, rfl⟩) k) ?_
  refine S_getfield d_Mo_isWire_45 fg_Mo_395 (w373 _) rfl ?_
  refine ST.lift (fun _ _ k => T_iload_n d_Mo_isWire_48 rfl k) ?_
  refine S_xload (t := 3) (k := 1) (Or.inr ⟨rfl, d_Mo_isWire_49⟩) rfl (w425 _) (by decide) (by decide) ?_
  refine S_topi (y := v 101) rfl ?_
  refine S_topi (y := nI 0) (e101) ?_
  refine S_if_eqN d_Mo_isWire_50 rfl (by omega) (fun _ => ?_) (fun c => by first | exact absurd c (by omega) | exact c.elim | exact absurd c (by decide) | exact absurd (by assumption) c | exact absurd c (by assumption) | exact absurd c (Int32.not_le.mpr (by assumption)))
  refine ST.lift (fun _ _ k => T_iconst (v := nI 0) d_Mo_isWire_64 (by decide) k) ?_
  refine S_topi (y := nI 0) (congrArg nI (by omega)) ?_
  exact S_ret d_Mo_isWire_65 rfl (nar_z (by omega)) (by decide) (by decide) (hQ _ hv hm (e101.trans (congrArg nI (by omega))))
set_option maxRecDepth 100000 in
set_option maxHeartbeats 4000000 in
theorem c_Mo_wire_1_2_not (G : GX) (v : Nat → Int32) (i : Nat) (b_i : i < 2147483648) (e101 : v 101 = nI 0) (hv : okv v) : CS G mi_Mo_wire [.ref 373, .int (nI 1), .int (nI 2), .int (nI i)] v (fun r v' => r = some (.int (nI 0)) ∧ okv v' ∧ mdf [66] v v' ∧ v' 66 = nI 1) := by
  refine CS.of (by decide) (Nat.le_of_ble_eq_true rfl) ?_
  generalize hQe : (fun (r : Option Value) (v' : Nat → Int32) => r = some (.int (nI 0)) ∧ okv v' ∧ mdf [66] v v' ∧ v' 66 = nI 1) = Q
  have hQ : ∀ u, okv u → mdf [66] v u → u 66 = nI 1 → Q (some (.int (nI 0))) u := by rw [← hQe]; exact fun u h1 h2 f0 => ⟨rfl, h1, h2, f0⟩
  clear hQe
  have hm : mdf [66] v v := mdf.rf
  show ST G mi_Mo_wire 0 [(0, .ref 373), (1, .int (nI 1)), (2, .int (nI 2)), (3, .int (nI i))] [] v 0 0 Q
  refine ST.lift (fun _ _ k => T_aload_n (v := .ref 373) d_Mo_wire_0 rfl (Or.inr ⟨_, rfl⟩) k) ?_
  refine ST.lift (fun _ _ k => T_iconst (v := nI 0) d_Mo_wire_1 (by decide) k) ?_
  refine S_putfield (v' := va_up v 66 (nI 0)) d_Mo_wire_2 (fp_Mo_316 _) (w373 _) (Nat.le_of_ble_eq_true rfl) ⟨rfl, rfl⟩ (u373_0 _ _) ?_
  have hv2 := hv.off (j := 66) (x := (nI 0)) (by decide)
  have hm3 := hm.go (mdf.up (v := v) (j := 66) (x := (nI 0))) (by intro i hi; simp only [List.mem_cons, List.not_mem_nil, or_false] at hi ⊢ <;> omega)
  have e_u1 : (va_up v 66 (nI 0)) 66 = (nI 0) := by simp [va_up]
  have e4 : (va_up v 66 (nI 0)) 101 = nI 0 := by simp only [va_up]; exact e101
  generalize va_up v 66 (nI 0) = u1 at hv2 hm3 e_u1 e4 ⊢
  refine ST.lift (fun _ _ k => T_aload_n (v := .ref 373) d_Mo_wire_5 rfl (Or.inr ⟨_, rfl⟩) k) ?_
  refine ST.lift (fun _ _ k => T_iload_n d_Mo_wire_6 rfl k) ?_
  refine ST.lift (fun _ _ k => T_iload_n d_Mo_wire_7 rfl k) ?_
  refine ST.lift (fun _ _ k => T_iload_n d_Mo_wire_8 rfl k) ?_
  refine S_virtual (as := [.int (nI 1), .int (nI 2), .int (nI i)]) (rest := []) (b := 373) d_Mo_wire_9 rfl (jw_Mo_isWire.jo (by decide)) lm_Mo_595 ji_Mo_isWire js_Mo_isWire (w373 _) rfl rfl rfl (Nat.le_of_ble_eq_true rfl) (by decide) (by decide) (c_Mo_isWire_1_2_not G u1 i (by omega) e4 hv2) (fun r u5 hq => ?_)
  obtain ⟨hr, hv6, hm7, fe0_u5⟩ := hq
  rw [hr]
  clear hr r
  have hm8 := hm3.go hm7 (by intro i hi; simp only [List.mem_cons, List.not_mem_nil, or_false] at hi ⊢ <;> omega)
  have e9 : u5 101 = nI 0 := (hm7 101 (by decide)).trans e4
  have e10 : u5 66 = nI 0 := (hm7 66 (by decide)).trans e_u1
  show ST G mi_Mo_wire 12 [(0, .ref 373), (1, .int (nI 1)), (2, .int (nI 2)), (3, .int (nI i))] [.int (nI 0)] u5 0 0 _
  refine S_if_neN d_Mo_wire_12 rfl (by omega) (fun c => by first | exact absurd c (by omega) | exact c.elim | exact absurd c (by decide) | exact absurd (by assumption) c | exact absurd c (by assumption) | exact absurd c (Int32.not_le.mpr (by assumption))) (fun _ => ?_)
  refine ST.lift (fun _ _ k => T_aload_n (v := .ref 373) d_Mo_wire_15 rfl (Or.inr ⟨_, rfl⟩) k) ?_
  refine ST.lift (fun _ _ k => T_iconst (v := nI 1) d_Mo_wire_16 (by decide) k) ?_
  refine S_putfield (v' := va_up u5 66 (nI 1)) d_Mo_wire_17 (fp_Mo_316 _) (w373 _) (Nat.le_of_ble_eq_true rfl) ⟨rfl, rfl⟩ (u373_0 _ _) ?_
  have hv12 := hv6.off (j := 66) (x := (nI 1)) (by decide)
  have hm13 := hm8.go (mdf.up (v := u5) (j := 66) (x := (nI 1))) (by intro i hi; simp only [List.mem_cons, List.not_mem_nil, or_false] at hi ⊢ <;> omega)
  have e_u11 : (va_up u5 66 (nI 1)) 66 = (nI 1) := by simp [va_up]
  have e14 : (va_up u5 66 (nI 1)) 101 = nI 0 := by simp only [va_up]; exact fe0_u5
  generalize va_up u5 66 (nI 1) = u11 at hv12 hm13 e_u11 e14 ⊢
  refine ST.lift (fun _ _ k => T_iconst (v := nI 0) d_Mo_wire_20 (by decide) k) ?_
  refine S_topi (y := nI 0) (congrArg nI (by omega)) ?_
  exact S_ret d_Mo_wire_21 rfl rfl (by decide) (by decide) (hQ _ hv12 hm13 (e_u11.trans (congrArg nI (by omega))))
set_option maxRecDepth 100000 in
set_option maxHeartbeats 4000000 in
theorem c_Mo_tamper_1_2_not (G : GX) (v : Nat → Int32) (i : Nat) (b_i : i < 2147483648) (mask : Int32) (e101 : v 101 = nI 0) (hv : okv v) : CS G mi_Mo_tamper [.ref 373, .int (nI 1), .int (nI 2), .int (nI i), .int mask] v (fun r v' => r = some (.int (nI 0)) ∧ okv v' ∧ mdf [66] v v' ∧ v' 66 = nI 0) := by
  refine CS.of (by decide) (Nat.le_of_ble_eq_true rfl) ?_
  generalize hQe : (fun (r : Option Value) (v' : Nat → Int32) => r = some (.int (nI 0)) ∧ okv v' ∧ mdf [66] v v' ∧ v' 66 = nI 0) = Q
  have hQ : ∀ u, okv u → mdf [66] v u → u 66 = nI 0 → Q (some (.int (nI 0))) u := by rw [← hQe]; exact fun u h1 h2 f0 => ⟨rfl, h1, h2, f0⟩
  clear hQe
  have hm : mdf [66] v v := mdf.rf
  show ST G mi_Mo_tamper 0 [(0, .ref 373), (1, .int (nI 1)), (2, .int (nI 2)), (3, .int (nI i)), (4, .int mask)] [] v 0 0 Q
  refine ST.lift (fun _ _ k => T_aload_n (v := .ref 373) d_Mo_tamper_0 rfl (Or.inr ⟨_, rfl⟩) k) ?_
  refine ST.lift (fun _ _ k => T_iconst (v := nI 0) d_Mo_tamper_1 (by decide) k) ?_
  refine S_putfield (v' := va_up v 66 (nI 0)) d_Mo_tamper_2 (fp_Mo_316 _) (w373 _) (Nat.le_of_ble_eq_true rfl) ⟨rfl, rfl⟩ (u373_0 _ _) ?_
  have hv2 := hv.off (j := 66) (x := (nI 0)) (by decide)
  have hm3 := hm.go (mdf.up (v := v) (j := 66) (x := (nI 0))) (by intro i hi; simp only [List.mem_cons, List.not_mem_nil, or_false] at hi ⊢ <;> omega)
  have e_u1 : (va_up v 66 (nI 0)) 66 = (nI 0) := by simp [va_up]
  have e4 : (va_up v 66 (nI 0)) 101 = nI 0 := by simp only [va_up]; exact e101
  generalize va_up v 66 (nI 0) = u1 at hv2 hm3 e_u1 e4 ⊢
  refine ST.lift (fun _ _ k => T_aload_n (v := .ref 373) d_Mo_tamper_5 rfl (Or.inr ⟨_, rfl⟩) k) ?_
  refine ST.lift (fun _ _ k => T_iload_n d_Mo_tamper_6 rfl k) ?_
  refine ST.lift (fun _ _ k => T_iload_n d_Mo_tamper_7 rfl k) ?_
  refine ST.lift (fun _ _ k => T_iload_n d_Mo_tamper_8 rfl k) ?_
  refine S_virtual (as := [.int (nI 1), .int (nI 2), .int (nI i)]) (rest := []) (b := 373) d_Mo_tamper_9 rfl (jw_Mo_isWire.jo (by decide)) lm_Mo_595 ji_Mo_isWire js_Mo_isWire (w373 _) rfl rfl rfl (Nat.le_of_ble_eq_true rfl) (by decide) (by decide) (c_Mo_isWire_1_2_not G u1 i (by omega) e4 hv2) (fun r u5 hq => ?_)
  obtain ⟨hr, hv6, hm7, fe0_u5⟩ := hq
  rw [hr]
  clear hr r
  have hm8 := hm3.go hm7 (by intro i hi; simp only [List.mem_cons, List.not_mem_nil, or_false] at hi ⊢ <;> omega)
  have e9 : u5 101 = nI 0 := (hm7 101 (by decide)).trans e4
  have e10 : u5 66 = nI 0 := (hm7 66 (by decide)).trans e_u1
  show ST G mi_Mo_tamper 12 [(0, .ref 373), (1, .int (nI 1)), (2, .int (nI 2)), (3, .int (nI i)), (4, .int mask)] [.int (nI 0)] u5 0 0 _
  refine S_if_neN d_Mo_tamper_12 rfl (by omega) (fun c => by first | exact absurd c (by omega) | exact c.elim | exact absurd c (by decide) | exact absurd (by assumption) c | exact absurd c (by assumption) | exact absurd c (Int32.not_le.mpr (by assumption))) (fun _ => ?_)
  refine ST.lift (fun _ _ k => T_iconst (v := nI 0) d_Mo_tamper_15 (by decide) k) ?_
  refine S_topi (y := nI 0) (congrArg nI (by omega)) ?_
  exact S_ret d_Mo_tamper_16 rfl (nar_z (by omega)) (by decide) (by decide) (hQ _ hv6 hm8 (e10.trans (congrArg nI (by omega))))
set_option maxRecDepth 100000 in
set_option maxHeartbeats 4000000 in
theorem c_Mo_isWire_1_3_not (G : GX) (v : Nat → Int32) (i : Nat) (b_i : i < 2147483648) (e105 : v 105 = nI 0) (hv : okv v) : CS G mi_Mo_isWire [.ref 373, .int (nI 1), .int (nI 3), .int (nI i)] v (fun r v' => r = some (.int (nI 0)) ∧ okv v' ∧ mdf [] v v' ∧ v' 105 = nI 0) := by
  refine CS.of (by decide) (Nat.le_of_ble_eq_true rfl) ?_
  generalize hQe : (fun (r : Option Value) (v' : Nat → Int32) => r = some (.int (nI 0)) ∧ okv v' ∧ mdf [] v v' ∧ v' 105 = nI 0) = Q
  have hQ : ∀ u, okv u → mdf [] v u → u 105 = nI 0 → Q (some (.int (nI 0))) u := by rw [← hQe]; exact fun u h1 h2 f0 => ⟨rfl, h1, h2, f0⟩
  clear hQe
  have hm : mdf [] v v := mdf.rf
  show ST G mi_Mo_isWire 0 [(0, .ref 373), (1, .int (nI 1)), (2, .int (nI 3)), (3, .int (nI i))] [] v 0 0 Q
  refine ST.lift (fun _ _ k => T_iload_n d_Mo_isWire_0 rfl k) ?_
  refine S_static (as := [.int (nI 1)]) (rest := []) d_Mo_isWire_1 rfl (jw_Mo_isSession.jo (by decide)) lm_Mo_545 jt_Mo_isSession rfl (Nat.le_of_ble_eq_true rfl) (by decide) (by decide) (c_Mo_isSession G v 1 (by omega)) (fun r v' hq => ?_)
  rw [hq.1, hq.2]
  clear hq r v'
  show ST G mi_Mo_isWire 4 [(0, .ref 373), (1, .int (nI 1)), (2, .int (nI 3)), (3, .int (nI i))] [.int (nI 1)] v 0 0 _
  refine S_if_eqN d_Mo_isWire_4 rfl (by omega) (fun c => by first | exact absurd c (by omega) | exact c.elim | exact absurd c (by decide) | exact absurd (by assumption) c | exact absurd c (by assumption) | exact absurd c (Int32.not_le.mpr (by assumption))) (fun _ => ?_)
  refine ST.lift (fun _ _ k => T_iload_n d_Mo_isWire_7 rfl k) ?_
  refine S_if_geN d_Mo_isWire_8 rfl (by omega) (fun _ => ?_) (fun c => by first | exact absurd c (by omega) | exact c.elim | exact absurd c (by decide) | exact absurd (by assumption) c | exact absurd c (by assumption) | exact absurd c (Int32.not_le.mpr (by assumption)))
  refine ST.lift (fun _ _ k => T_iload_n d_Mo_isWire_13 rfl k) ?_
  refine ST.lift (fun _ _ k => T_iconst (v := nI 1) d_Mo_isWire_14 (by decide) k) ?_
  refine S_icmp_neN d_Mo_isWire_15 rfl (by omega) (by omega) (fun _ => ?_) (fun c => by first | exact absurd c (by omega) | exact c.elim | exact absurd c (by decide) | exact absurd (by assumption) c | exact absurd c (by assumption) | exact absurd c (Int32.not_le.mpr (by assumption)))
  refine ST.lift (fun _ _ k => T_iload_n d_Mo_isWire_39 rfl k) ?_
  refine ST.lift (fun _ _ k => T_iconst (v := nI 2) d_Mo_isWire_40 (by decide) k) ?_
  refine S_icmp_neN d_Mo_isWire_41 rfl (by omega) (by omega) (fun _ => ?_) (fun c => by first | exact absurd c (by omega) | exact c.elim | exact absurd c (by decide) | exact absurd (by assumption) c | exact absurd c (by assumption) | exact absurd c (Int32.not_le.mpr (by assumption)))
  refine ST.lift (fun _ _ k => T_iload_n d_Mo_isWire_66 rfl k) ?_
  refine ST.lift (fun _ _ k => T_iconst (v := nI 3) d_Mo_isWire_67 (by decide) k) ?_
  refine S_icmp_neN d_Mo_isWire_68 rfl (by omega) (by omega) (fun c => by first | exact absurd c (by omega) | exact c.elim | exact absurd c (by decide) | exact absurd (by assumption) c | exact absurd c (by assumption) | exact absurd c (Int32.not_le.mpr (by assumption))) (fun _ => ?_)
  refine ST.lift (fun _ _ k => T_aload_n (v := .ref 373) d_Mo_isWire_71 rfl (Or.inr ⟨_, rfl⟩) k) ?_
  refine S_getfield d_Mo_isWire_72 fg_Mo_398 (w373 _) rfl ?_
  refine ST.lift (fun _ _ k => T_iload_n d_Mo_isWire_75 rfl k) ?_
  refine S_xload (t := 3) (k := 1) (Or.inr ⟨rfl, d_Mo_isWire_76⟩) rfl (w426 _) (by decide) (by decide) ?_
  refine S_topi (y := v 105) rfl ?_
  refine S_topi (y := nI 0) (e105) ?_
  refine S_if_eqN d_Mo_isWire_77 rfl (by omega) (fun _ => ?_) (fun c => by first | exact absurd c (by omega) | exact c.elim | exact absurd c (by decide) | exact absurd (by assumption) c | exact absurd c (by assumption) | exact absurd c (Int32.not_le.mpr (by assumption)))
  refine ST.lift (fun _ _ k => T_iconst (v := nI 0) d_Mo_isWire_90 (by decide) k) ?_
  refine S_topi (y := nI 0) (congrArg nI (by omega)) ?_
  exact S_ret d_Mo_isWire_91 rfl (nar_z (by omega)) (by decide) (by decide) (hQ _ hv hm (e105.trans (congrArg nI (by omega))))
set_option maxRecDepth 100000 in
set_option maxHeartbeats 4000000 in
theorem c_Mo_wire_1_3_not (G : GX) (v : Nat → Int32) (i : Nat) (b_i : i < 2147483648) (e105 : v 105 = nI 0) (hv : okv v) : CS G mi_Mo_wire [.ref 373, .int (nI 1), .int (nI 3), .int (nI i)] v (fun r v' => r = some (.int (nI 0)) ∧ okv v' ∧ mdf [66] v v' ∧ v' 66 = nI 1) := by
  refine CS.of (by decide) (Nat.le_of_ble_eq_true rfl) ?_
  generalize hQe : (fun (r : Option Value) (v' : Nat → Int32) => r = some (.int (nI 0)) ∧ okv v' ∧ mdf [66] v v' ∧ v' 66 = nI 1) = Q
  have hQ : ∀ u, okv u → mdf [66] v u → u 66 = nI 1 → Q (some (.int (nI 0))) u := by rw [← hQe]; exact fun u h1 h2 f0 => ⟨rfl, h1, h2, f0⟩
  clear hQe
  have hm : mdf [66] v v := mdf.rf
  show ST G mi_Mo_wire 0 [(0, .ref 373), (1, .int (nI 1)), (2, .int (nI 3)), (3, .int (nI i))] [] v 0 0 Q
  refine ST.lift (fun _ _ k => T_aload_n (v := .ref 373) d_Mo_wire_0 rfl (Or.inr ⟨_, rfl⟩) k) ?_
  refine ST.lift (fun _ _ k => T_iconst (v := nI 0) d_Mo_wire_1 (by decide) k) ?_
  refine S_putfield (v' := va_up v 66 (nI 0)) d_Mo_wire_2 (fp_Mo_316 _) (w373 _) (Nat.le_of_ble_eq_true rfl) ⟨rfl, rfl⟩ (u373_0 _ _) ?_
  have hv2 := hv.off (j := 66) (x := (nI 0)) (by decide)
  have hm3 := hm.go (mdf.up (v := v) (j := 66) (x := (nI 0))) (by intro i hi; simp only [List.mem_cons, List.not_mem_nil, or_false] at hi ⊢ <;> omega)
  have e_u1 : (va_up v 66 (nI 0)) 66 = (nI 0) := by simp [va_up]
  have e4 : (va_up v 66 (nI 0)) 105 = nI 0 := by simp only [va_up]; exact e105
  generalize va_up v 66 (nI 0) = u1 at hv2 hm3 e_u1 e4 ⊢
  refine ST.lift (fun _ _ k => T_aload_n (v := .ref 373) d_Mo_wire_5 rfl (Or.inr ⟨_, rfl⟩) k) ?_
  refine ST.lift (fun _ _ k => T_iload_n d_Mo_wire_6 rfl k) ?_
  refine ST.lift (fun _ _ k => T_iload_n d_Mo_wire_7 rfl k) ?_
  refine ST.lift (fun _ _ k => T_iload_n d_Mo_wire_8 rfl k) ?_
  refine S_virtual (as := [.int (nI 1), .int (nI 3), .int (nI i)]) (rest := []) (b := 373) d_Mo_wire_9 rfl (jw_Mo_isWire.jo (by decide)) lm_Mo_595 ji_Mo_isWire js_Mo_isWire (w373 _) rfl rfl rfl (Nat.le_of_ble_eq_true rfl) (by decide) (by decide) (c_Mo_isWire_1_3_not G u1 i (by omega) e4 hv2) (fun r u5 hq => ?_)
  obtain ⟨hr, hv6, hm7, fe0_u5⟩ := hq
  rw [hr]
  clear hr r
  have hm8 := hm3.go hm7 (by intro i hi; simp only [List.mem_cons, List.not_mem_nil, or_false] at hi ⊢ <;> omega)
  have e9 : u5 105 = nI 0 := (hm7 105 (by decide)).trans e4
  have e10 : u5 66 = nI 0 := (hm7 66 (by decide)).trans e_u1
  show ST G mi_Mo_wire 12 [(0, .ref 373), (1, .int (nI 1)), (2, .int (nI 3)), (3, .int (nI i))] [.int (nI 0)] u5 0 0 _
  refine S_if_neN d_Mo_wire_12 rfl (by omega) (fun c => by first | exact absurd c (by omega) | exact c.elim | exact absurd c (by decide) | exact absurd (by assumption) c | exact absurd c (by assumption) | exact absurd c (Int32.not_le.mpr (by assumption))) (fun _ => ?_)
  refine ST.lift (fun _ _ k => T_aload_n (v := .ref 373) d_Mo_wire_15 rfl (Or.inr ⟨_, rfl⟩) k) ?_
  refine ST.lift (fun _ _ k => T_iconst (v := nI 1) d_Mo_wire_16 (by decide) k) ?_
  refine S_putfield (v' := va_up u5 66 (nI 1)) d_Mo_wire_17 (fp_Mo_316 _) (w373 _) (Nat.le_of_ble_eq_true rfl) ⟨rfl, rfl⟩ (u373_0 _ _) ?_
  have hv12 := hv6.off (j := 66) (x := (nI 1)) (by decide)
  have hm13 := hm8.go (mdf.up (v := u5) (j := 66) (x := (nI 1))) (by intro i hi; simp only [List.mem_cons, List.not_mem_nil, or_false] at hi ⊢ <;> omega)
  have e_u11 : (va_up u5 66 (nI 1)) 66 = (nI 1) := by simp [va_up]
  have e14 : (va_up u5 66 (nI 1)) 105 = nI 0 := by simp only [va_up]; exact fe0_u5
  generalize va_up u5 66 (nI 1) = u11 at hv12 hm13 e_u11 e14 ⊢
  refine ST.lift (fun _ _ k => T_iconst (v := nI 0) d_Mo_wire_20 (by decide) k) ?_
  refine S_topi (y := nI 0) (congrArg nI (by omega)) ?_
  exact S_ret d_Mo_wire_21 rfl rfl (by decide) (by decide) (hQ _ hv12 hm13 (e_u11.trans (congrArg nI (by omega))))
set_option maxRecDepth 100000 in
set_option maxHeartbeats 4000000 in
theorem c_Mo_tamper_1_3_not (G : GX) (v : Nat → Int32) (i : Nat) (b_i : i < 2147483648) (mask : Int32) (e105 : v 105 = nI 0) (hv : okv v) : CS G mi_Mo_tamper [.ref 373, .int (nI 1), .int (nI 3), .int (nI i), .int mask] v (fun r v' => r = some (.int (nI 0)) ∧ okv v' ∧ mdf [66] v v' ∧ v' 66 = nI 0) := by
  refine CS.of (by decide) (Nat.le_of_ble_eq_true rfl) ?_
  generalize hQe : (fun (r : Option Value) (v' : Nat → Int32) => r = some (.int (nI 0)) ∧ okv v' ∧ mdf [66] v v' ∧ v' 66 = nI 0) = Q
  have hQ : ∀ u, okv u → mdf [66] v u → u 66 = nI 0 → Q (some (.int (nI 0))) u := by rw [← hQe]; exact fun u h1 h2 f0 => ⟨rfl, h1, h2, f0⟩
  clear hQe
  have hm : mdf [66] v v := mdf.rf
  show ST G mi_Mo_tamper 0 [(0, .ref 373), (1, .int (nI 1)), (2, .int (nI 3)), (3, .int (nI i)), (4, .int mask)] [] v 0 0 Q
  refine ST.lift (fun _ _ k => T_aload_n (v := .ref 373) d_Mo_tamper_0 rfl (Or.inr ⟨_, rfl⟩) k) ?_
  refine ST.lift (fun _ _ k => T_iconst (v := nI 0) d_Mo_tamper_1 (by decide) k) ?_
  refine S_putfield (v' := va_up v 66 (nI 0)) d_Mo_tamper_2 (fp_Mo_316 _) (w373 _) (Nat.le_of_ble_eq_true rfl) ⟨rfl, rfl⟩ (u373_0 _ _) ?_
  have hv2 := hv.off (j := 66) (x := (nI 0)) (by decide)
  have hm3 := hm.go (mdf.up (v := v) (j := 66) (x := (nI 0))) (by intro i hi; simp only [List.mem_cons, List.not_mem_nil, or_false] at hi ⊢ <;> omega)
  have e_u1 : (va_up v 66 (nI 0)) 66 = (nI 0) := by simp [va_up]
  have e4 : (va_up v 66 (nI 0)) 105 = nI 0 := by simp only [va_up]; exact e105
  generalize va_up v 66 (nI 0) = u1 at hv2 hm3 e_u1 e4 ⊢
  refine ST.lift (fun _ _ k => T_aload_n (v := .ref 373) d_Mo_tamper_5 rfl (Or.inr ⟨_, rfl⟩) k) ?_
  refine ST.lift (fun _ _ k => T_iload_n d_Mo_tamper_6 rfl k) ?_
  refine ST.lift (fun _ _ k => T_iload_n d_Mo_tamper_7 rfl k) ?_
  refine ST.lift (fun _ _ k => T_iload_n d_Mo_tamper_8 rfl k) ?_
  refine S_virtual (as := [.int (nI 1), .int (nI 3), .int (nI i)]) (rest := []) (b := 373) d_Mo_tamper_9 rfl (jw_Mo_isWire.jo (by decide)) lm_Mo_595 ji_Mo_isWire js_Mo_isWire (w373 _) rfl rfl rfl (Nat.le_of_ble_eq_true rfl) (by decide) (by decide) (c_Mo_isWire_1_3_not G u1 i (by omega) e4 hv2) (fun r u5 hq => ?_)
  obtain ⟨hr, hv6, hm7, fe0_u5⟩ := hq
  rw [hr]
  clear hr r
  have hm8 := hm3.go hm7 (by intro i hi; simp only [List.mem_cons, List.not_mem_nil, or_false] at hi ⊢ <;> omega)
  have e9 : u5 105 = nI 0 := (hm7 105 (by decide)).trans e4
  have e10 : u5 66 = nI 0 := (hm7 66 (by decide)).trans e_u1
  show ST G mi_Mo_tamper 12 [(0, .ref 373), (1, .int (nI 1)), (2, .int (nI 3)), (3, .int (nI i)), (4, .int mask)] [.int (nI 0)] u5 0 0 _
  refine S_if_neN d_Mo_tamper_12 rfl (by omega) (fun c => by first | exact absurd c (by omega) | exact c.elim | exact absurd c (by decide) | exact absurd (by assumption) c | exact absurd c (by assumption) | exact absurd c (Int32.not_le.mpr (by assumption))) (fun _ => ?_)
  refine ST.lift (fun _ _ k => T_iconst (v := nI 0) d_Mo_tamper_15 (by decide) k) ?_
  refine S_topi (y := nI 0) (congrArg nI (by omega)) ?_
  exact S_ret d_Mo_tamper_16 rfl (nar_z (by omega)) (by decide) (by decide) (hQ _ hv6 hm8 (e10.trans (congrArg nI (by omega))))
set_option maxRecDepth 100000 in
set_option maxHeartbeats 4000000 in
theorem c_Mo_key_1_neg (G : GX) (v : Nat → Int32) (y : Int32) (z : Int32) (hz_n : z < 0) (hv : okv v) : CS G mi_Mo_key [.ref 373, .int (nI 1), .int y, .int z] v (fun r v' => r = some (.int (nI 0)) ∧ okv v' ∧ mdf [66] v v' ∧ v' 66 = nI 1) := by
  refine CS.of (by decide) (Nat.le_of_ble_eq_true rfl) ?_
  generalize hQe : (fun (r : Option Value) (v' : Nat → Int32) => r = some (.int (nI 0)) ∧ okv v' ∧ mdf [66] v v' ∧ v' 66 = nI 1) = Q
  have hQ : ∀ u, okv u → mdf [66] v u → u 66 = nI 1 → Q (some (.int (nI 0))) u := by rw [← hQe]; exact fun u h1 h2 f0 => ⟨rfl, h1, h2, f0⟩
  clear hQe
  have hm : mdf [66] v v := mdf.rf
  show ST G mi_Mo_key 0 [(0, .ref 373), (1, .int (nI 1)), (2, .int y), (3, .int z)] [] v 0 0 Q
  refine ST.lift (fun _ _ k => T_aload_n (v := .ref 373) d_Mo_key_0 rfl (Or.inr ⟨_, rfl⟩) k) ?_
  refine ST.lift (fun _ _ k => T_iconst (v := nI 0) d_Mo_key_1 (by decide) k) ?_
  refine S_putfield (v' := va_up v 66 (nI 0)) d_Mo_key_2 (fp_Mo_316 _) (w373 _) (Nat.le_of_ble_eq_true rfl) ⟨rfl, rfl⟩ (u373_0 _ _) ?_
  have hv2 := hv.off (j := 66) (x := (nI 0)) (by decide)
  have hm3 := hm.go (mdf.up (v := v) (j := 66) (x := (nI 0))) (by intro i hi; simp only [List.mem_cons, List.not_mem_nil, or_false] at hi ⊢ <;> omega)
  have e_u1 : (va_up v 66 (nI 0)) 66 = (nI 0) := by simp [va_up]
  generalize va_up v 66 (nI 0) = u1 at hv2 hm3 e_u1 ⊢
  refine ST.lift (fun _ _ k => T_iload_n d_Mo_key_5 rfl k) ?_
  refine S_static (as := [.int (nI 1)]) (rest := []) d_Mo_key_6 rfl (jw_Mo_isSession.jo (by decide)) lm_Mo_545 jt_Mo_isSession rfl (Nat.le_of_ble_eq_true rfl) (by decide) (by decide) (c_Mo_isSession G u1 1 (by omega)) (fun r v' hq => ?_)
  rw [hq.1, hq.2]
  clear hq r v'
  show ST G mi_Mo_key 9 [(0, .ref 373), (1, .int (nI 1)), (2, .int y), (3, .int z)] [.int (nI 1)] u1 0 0 _
  refine S_if_eqN d_Mo_key_9 rfl (by omega) (fun c => by first | exact absurd c (by omega) | exact c.elim | exact absurd c (by decide) | exact absurd (by assumption) c | exact absurd c (by assumption) | exact absurd c (Int32.not_le.mpr (by assumption))) (fun _ => ?_)
  refine ST.lift (fun _ _ k => T_iload_n d_Mo_key_12 rfl k) ?_
  refine S_if_lt d_Mo_key_13 rfl (fun _ => ?_) (fun c => by first | exact absurd c (by omega) | exact c.elim | exact absurd c (by decide) | exact absurd (by assumption) c | exact absurd c (by assumption) | exact absurd c (Int32.not_le.mpr (by assumption)))
  refine ST.lift (fun _ _ k => T_iconst (v := nI 0) d_Mo_key_35 (by decide) k) ?_
  refine ST.lift (fun _ _ k => T_istore (L' := [(4, .int (nI 0)), (0, .ref 373), (1, .int (nI 1)), (2, .int y), (3, .int z)]) d_Mo_key_36 (by decide) rfl k) ?_
  refine ST.lift (fun _ _ k => T_iload d_Mo_key_38 rfl k) ?_
  refine S_if_eqN d_Mo_key_40 rfl (by omega) (fun _ => ?_) (fun c => by first | exact absurd c (by omega) | exact c.elim | exact absurd c (by decide) | exact absurd (by assumption) c | exact absurd c (by assumption) | exact absurd c (Int32.not_le.mpr (by assumption)))
  refine ST.lift (fun _ _ k => T_iload d_Mo_key_59 rfl k) ?_
  refine S_if_eqN d_Mo_key_61 rfl (by omega) (fun _ => ?_) (fun c => by first | exact absurd c (by omega) | exact c.elim | exact absurd c (by decide) | exact absurd (by assumption) c | exact absurd c (by assumption) | exact absurd c (Int32.not_le.mpr (by assumption)))
  refine ST.lift (fun _ _ k => T_iload d_Mo_key_72 rfl k) ?_
  refine S_if_neN d_Mo_key_74 rfl (by omega) (fun c => by first | exact absurd c (by omega) | exact c.elim | exact absurd c (by decide) | exact absurd (by assumption) c | exact absurd c (by assumption) | exact absurd c (Int32.not_le.mpr (by assumption))) (fun _ => ?_)
  refine ST.lift (fun _ _ k => T_aload_n (v := .ref 373) d_Mo_key_77 rfl (Or.inr ⟨_, rfl⟩) k) ?_
  refine ST.lift (fun _ _ k => T_iconst (v := nI 1) d_Mo_key_78 (by decide) k) ?_
  refine S_putfield (v' := va_up u1 66 (nI 1)) d_Mo_key_79 (fp_Mo_316 _) (w373 _) (Nat.le_of_ble_eq_true rfl) ⟨rfl, rfl⟩ (u373_0 _ _) ?_
  have hv5 := hv2.off (j := 66) (x := (nI 1)) (by decide)
  have hm6 := hm3.go (mdf.up (v := u1) (j := 66) (x := (nI 1))) (by intro i hi; simp only [List.mem_cons, List.not_mem_nil, or_false] at hi ⊢ <;> omega)
  have e_u4 : (va_up u1 66 (nI 1)) 66 = (nI 1) := by simp [va_up]
  generalize va_up u1 66 (nI 1) = u4 at hv5 hm6 e_u4 ⊢
  refine ST.lift (fun _ _ k => T_iconst (v := nI 0) d_Mo_key_82 (by decide) k) ?_
  refine S_topi (y := nI 0) (congrArg nI (by omega)) ?_
  exact S_ret d_Mo_key_83 rfl rfl (by decide) (by decide) (hQ _ hv5 hm6 (e_u4.trans (congrArg nI (by omega))))
set_option maxRecDepth 100000 in
set_option maxHeartbeats 4000000 in
theorem c_Mo_key_1_far (G : GX) (v : Nat → Int32) (y : Int32) (i : Nat) (b_i : i < 2147483648) (hi : 64 ≤ i) (hv : okv v) : CS G mi_Mo_key [.ref 373, .int (nI 1), .int y, .int (nI i)] v (fun r v' => r = some (.int (nI 0)) ∧ okv v' ∧ mdf [66] v v' ∧ v' 66 = nI 1) := by
  refine CS.of (by decide) (Nat.le_of_ble_eq_true rfl) ?_
  generalize hQe : (fun (r : Option Value) (v' : Nat → Int32) => r = some (.int (nI 0)) ∧ okv v' ∧ mdf [66] v v' ∧ v' 66 = nI 1) = Q
  have hQ : ∀ u, okv u → mdf [66] v u → u 66 = nI 1 → Q (some (.int (nI 0))) u := by rw [← hQe]; exact fun u h1 h2 f0 => ⟨rfl, h1, h2, f0⟩
  clear hQe
  have hm : mdf [66] v v := mdf.rf
  show ST G mi_Mo_key 0 [(0, .ref 373), (1, .int (nI 1)), (2, .int y), (3, .int (nI i))] [] v 0 0 Q
  refine ST.lift (fun _ _ k => T_aload_n (v := .ref 373) d_Mo_key_0 rfl (Or.inr ⟨_, rfl⟩) k) ?_
  refine ST.lift (fun _ _ k => T_iconst (v := nI 0) d_Mo_key_1 (by decide) k) ?_
  refine S_putfield (v' := va_up v 66 (nI 0)) d_Mo_key_2 (fp_Mo_316 _) (w373 _) (Nat.le_of_ble_eq_true rfl) ⟨rfl, rfl⟩ (u373_0 _ _) ?_
  have hv2 := hv.off (j := 66) (x := (nI 0)) (by decide)
  have hm3 := hm.go (mdf.up (v := v) (j := 66) (x := (nI 0))) (by intro i hi; simp only [List.mem_cons, List.not_mem_nil, or_false] at hi ⊢ <;> omega)
  have e_u1 : (va_up v 66 (nI 0)) 66 = (nI 0) := by simp [va_up]
  generalize va_up v 66 (nI 0) = u1 at hv2 hm3 e_u1 ⊢
  refine ST.lift (fun _ _ k => T_iload_n d_Mo_key_5 rfl k) ?_
  refine S_static (as := [.int (nI 1)]) (rest := []) d_Mo_key_6 rfl (jw_Mo_isSession.jo (by decide)) lm_Mo_545 jt_Mo_isSession rfl (Nat.le_of_ble_eq_true rfl) (by decide) (by decide) (c_Mo_isSession G u1 1 (by omega)) (fun r v' hq => ?_)
  rw [hq.1, hq.2]
  clear hq r v'
  show ST G mi_Mo_key 9 [(0, .ref 373), (1, .int (nI 1)), (2, .int y), (3, .int (nI i))] [.int (nI 1)] u1 0 0 _
  refine S_if_eqN d_Mo_key_9 rfl (by omega) (fun c => by first | exact absurd c (by omega) | exact c.elim | exact absurd c (by decide) | exact absurd (by assumption) c | exact absurd c (by assumption) | exact absurd c (Int32.not_le.mpr (by assumption))) (fun _ => ?_)
  refine ST.lift (fun _ _ k => T_iload_n d_Mo_key_12 rfl k) ?_
  refine S_if_ltN d_Mo_key_13 rfl (by omega) (fun c => by first | exact absurd c (by omega) | exact c.elim | exact absurd c (by decide) | exact absurd (by assumption) c | exact absurd c (by assumption) | exact absurd c (Int32.not_le.mpr (by assumption))) (fun _ => ?_)
  refine ST.lift (fun _ _ k => T_iload_n d_Mo_key_16 rfl k) ?_
  refine ST.lift (fun _ _ k => T_bipush (v := nI 64) d_Mo_key_17 (by decide) k) ?_
  refine S_icmp_geN d_Mo_key_19 rfl (by omega) (by omega) (fun _ => ?_) (fun c => by first | exact absurd c (by omega) | exact c.elim | exact absurd c (by decide) | exact absurd (by assumption) c | exact absurd c (by assumption) | exact absurd c (Int32.not_le.mpr (by assumption)))
  refine ST.lift (fun _ _ k => T_iconst (v := nI 0) d_Mo_key_35 (by decide) k) ?_
  refine ST.lift (fun _ _ k => T_istore (L' := [(4, .int (nI 0)), (0, .ref 373), (1, .int (nI 1)), (2, .int y), (3, .int (nI i))]) d_Mo_key_36 (by decide) rfl k) ?_
  refine ST.lift (fun _ _ k => T_iload d_Mo_key_38 rfl k) ?_
  refine S_if_eqN d_Mo_key_40 rfl (by omega) (fun _ => ?_) (fun c => by first | exact absurd c (by omega) | exact c.elim | exact absurd c (by decide) | exact absurd (by assumption) c | exact absurd c (by assumption) | exact absurd c (Int32.not_le.mpr (by assumption)))
  refine ST.lift (fun _ _ k => T_iload d_Mo_key_59 rfl k) ?_
  refine S_if_eqN d_Mo_key_61 rfl (by omega) (fun _ => ?_) (fun c => by first | exact absurd c (by omega) | exact c.elim | exact absurd c (by decide) | exact absurd (by assumption) c | exact absurd c (by assumption) | exact absurd c (Int32.not_le.mpr (by assumption)))
  refine ST.lift (fun _ _ k => T_iload d_Mo_key_72 rfl k) ?_
  refine S_if_neN d_Mo_key_74 rfl (by omega) (fun c => by first | exact absurd c (by omega) | exact c.elim | exact absurd c (by decide) | exact absurd (by assumption) c | exact absurd c (by assumption) | exact absurd c (Int32.not_le.mpr (by assumption))) (fun _ => ?_)
  refine ST.lift (fun _ _ k => T_aload_n (v := .ref 373) d_Mo_key_77 rfl (Or.inr ⟨_, rfl⟩) k) ?_
  refine ST.lift (fun _ _ k => T_iconst (v := nI 1) d_Mo_key_78 (by decide) k) ?_
  refine S_putfield (v' := va_up u1 66 (nI 1)) d_Mo_key_79 (fp_Mo_316 _) (w373 _) (Nat.le_of_ble_eq_true rfl) ⟨rfl, rfl⟩ (u373_0 _ _) ?_
  have hv5 := hv2.off (j := 66) (x := (nI 1)) (by decide)
  have hm6 := hm3.go (mdf.up (v := u1) (j := 66) (x := (nI 1))) (by intro i hi; simp only [List.mem_cons, List.not_mem_nil, or_false] at hi ⊢ <;> omega)
  have e_u4 : (va_up u1 66 (nI 1)) 66 = (nI 1) := by simp [va_up]
  generalize va_up u1 66 (nI 1) = u4 at hv5 hm6 e_u4 ⊢
  refine ST.lift (fun _ _ k => T_iconst (v := nI 0) d_Mo_key_82 (by decide) k) ?_
  refine S_topi (y := nI 0) (congrArg nI (by omega)) ?_
  exact S_ret d_Mo_key_83 rfl rfl (by decide) (by decide) (hQ _ hv5 hm6 (e_u4.trans (congrArg nI (by omega))))
set_option maxRecDepth 100000 in
set_option maxHeartbeats 4000000 in
theorem c_Mo_key_1_lt (G : GX) (v : Nat → Int32) (y : Int32) (i : Nat) (b_i : i < 64) (hy : y < 0) (hv : okv v) : CS G mi_Mo_key [.ref 373, .int (nI 1), .int y, .int (nI i)] v (fun r v' => r = some (.int (nI 0)) ∧ okv v' ∧ mdf [66] v v' ∧ v' 66 = nI 1) := by
  refine CS.of (by decide) (Nat.le_of_ble_eq_true rfl) ?_
  generalize hQe : (fun (r : Option Value) (v' : Nat → Int32) => r = some (.int (nI 0)) ∧ okv v' ∧ mdf [66] v v' ∧ v' 66 = nI 1) = Q
  have hQ : ∀ u, okv u → mdf [66] v u → u 66 = nI 1 → Q (some (.int (nI 0))) u := by rw [← hQe]; exact fun u h1 h2 f0 => ⟨rfl, h1, h2, f0⟩
  clear hQe
  have hm : mdf [66] v v := mdf.rf
  show ST G mi_Mo_key 0 [(0, .ref 373), (1, .int (nI 1)), (2, .int y), (3, .int (nI i))] [] v 0 0 Q
  refine ST.lift (fun _ _ k => T_aload_n (v := .ref 373) d_Mo_key_0 rfl (Or.inr ⟨_, rfl⟩) k) ?_
  refine ST.lift (fun _ _ k => T_iconst (v := nI 0) d_Mo_key_1 (by decide) k) ?_
  refine S_putfield (v' := va_up v 66 (nI 0)) d_Mo_key_2 (fp_Mo_316 _) (w373 _) (Nat.le_of_ble_eq_true rfl) ⟨rfl, rfl⟩ (u373_0 _ _) ?_
  have hv2 := hv.off (j := 66) (x := (nI 0)) (by decide)
  have hm3 := hm.go (mdf.up (v := v) (j := 66) (x := (nI 0))) (by intro i hi; simp only [List.mem_cons, List.not_mem_nil, or_false] at hi ⊢ <;> omega)
  have e_u1 : (va_up v 66 (nI 0)) 66 = (nI 0) := by simp [va_up]
  generalize va_up v 66 (nI 0) = u1 at hv2 hm3 e_u1 ⊢
  refine ST.lift (fun _ _ k => T_iload_n d_Mo_key_5 rfl k) ?_
  refine S_static (as := [.int (nI 1)]) (rest := []) d_Mo_key_6 rfl (jw_Mo_isSession.jo (by decide)) lm_Mo_545 jt_Mo_isSession rfl (Nat.le_of_ble_eq_true rfl) (by decide) (by decide) (c_Mo_isSession G u1 1 (by omega)) (fun r v' hq => ?_)
  rw [hq.1, hq.2]
  clear hq r v'
  show ST G mi_Mo_key 9 [(0, .ref 373), (1, .int (nI 1)), (2, .int y), (3, .int (nI i))] [.int (nI 1)] u1 0 0 _
  refine S_if_eqN d_Mo_key_9 rfl (by omega) (fun c => by first | exact absurd c (by omega) | exact c.elim | exact absurd c (by decide) | exact absurd (by assumption) c | exact absurd c (by assumption) | exact absurd c (Int32.not_le.mpr (by assumption))) (fun _ => ?_)
  refine ST.lift (fun _ _ k => T_iload_n d_Mo_key_12 rfl k) ?_
  refine S_if_ltN d_Mo_key_13 rfl (by omega) (fun c => by first | exact absurd c (by omega) | exact c.elim | exact absurd c (by decide) | exact absurd (by assumption) c | exact absurd c (by assumption) | exact absurd c (Int32.not_le.mpr (by assumption))) (fun _ => ?_)
  refine ST.lift (fun _ _ k => T_iload_n d_Mo_key_16 rfl k) ?_
  refine ST.lift (fun _ _ k => T_bipush (v := nI 64) d_Mo_key_17 (by decide) k) ?_
  refine S_icmp_geN d_Mo_key_19 rfl (by omega) (by omega) (fun c => by first | exact absurd c (by omega) | exact c.elim | exact absurd c (by decide) | exact absurd (by assumption) c | exact absurd c (by assumption) | exact absurd c (Int32.not_le.mpr (by assumption))) (fun _ => ?_)
  refine ST.lift (fun _ _ k => T_iload_n d_Mo_key_22 rfl k) ?_
  refine S_if_lt d_Mo_key_23 rfl (fun _ => ?_) (fun c => by first | exact absurd c (by omega) | exact c.elim | exact absurd c (by decide) | exact absurd (by assumption) c | exact absurd c (by assumption) | exact absurd c (Int32.not_le.mpr (by assumption)))
  refine ST.lift (fun _ _ k => T_iconst (v := nI 0) d_Mo_key_35 (by decide) k) ?_
  refine ST.lift (fun _ _ k => T_istore (L' := [(4, .int (nI 0)), (0, .ref 373), (1, .int (nI 1)), (2, .int y), (3, .int (nI i))]) d_Mo_key_36 (by decide) rfl k) ?_
  refine ST.lift (fun _ _ k => T_iload d_Mo_key_38 rfl k) ?_
  refine S_if_eqN d_Mo_key_40 rfl (by omega) (fun _ => ?_) (fun c => by first | exact absurd c (by omega) | exact c.elim | exact absurd c (by decide) | exact absurd (by assumption) c | exact absurd c (by assumption) | exact absurd c (Int32.not_le.mpr (by assumption)))
  refine ST.lift (fun _ _ k => T_iload d_Mo_key_59 rfl k) ?_
  refine S_if_eqN d_Mo_key_61 rfl (by omega) (fun _ => ?_) (fun c => by first | exact absurd c (by omega) | exact c.elim | exact absurd c (by decide) | exact absurd (by assumption) c | exact absurd c (by assumption) | exact absurd c (Int32.not_le.mpr (by assumption)))
  refine ST.lift (fun _ _ k => T_iload d_Mo_key_72 rfl k) ?_
  refine S_if_neN d_Mo_key_74 rfl (by omega) (fun c => by first | exact absurd c (by omega) | exact c.elim | exact absurd c (by decide) | exact absurd (by assumption) c | exact absurd c (by assumption) | exact absurd c (Int32.not_le.mpr (by assumption))) (fun _ => ?_)
  refine ST.lift (fun _ _ k => T_aload_n (v := .ref 373) d_Mo_key_77 rfl (Or.inr ⟨_, rfl⟩) k) ?_
  refine ST.lift (fun _ _ k => T_iconst (v := nI 1) d_Mo_key_78 (by decide) k) ?_
  refine S_putfield (v' := va_up u1 66 (nI 1)) d_Mo_key_79 (fp_Mo_316 _) (w373 _) (Nat.le_of_ble_eq_true rfl) ⟨rfl, rfl⟩ (u373_0 _ _) ?_
  have hv5 := hv2.off (j := 66) (x := (nI 1)) (by decide)
  have hm6 := hm3.go (mdf.up (v := u1) (j := 66) (x := (nI 1))) (by intro i hi; simp only [List.mem_cons, List.not_mem_nil, or_false] at hi ⊢ <;> omega)
  have e_u4 : (va_up u1 66 (nI 1)) 66 = (nI 1) := by simp [va_up]
  generalize va_up u1 66 (nI 1) = u4 at hv5 hm6 e_u4 ⊢
  refine ST.lift (fun _ _ k => T_iconst (v := nI 0) d_Mo_key_82 (by decide) k) ?_
  refine S_topi (y := nI 0) (congrArg nI (by omega)) ?_
  exact S_ret d_Mo_key_83 rfl rfl (by decide) (by decide) (hQ _ hv5 hm6 (e_u4.trans (congrArg nI (by omega))))
set_option maxRecDepth 100000 in
set_option maxHeartbeats 4000000 in
theorem c_Mo_key_1_gt (G : GX) (v : Nat → Int32) (y : Int32) (i : Nat) (b_i : i < 64) (h0 : ¬ y < 0) (hy : nI 3 ≤ y) (hv : okv v) : CS G mi_Mo_key [.ref 373, .int (nI 1), .int y, .int (nI i)] v (fun r v' => r = some (.int (nI 0)) ∧ okv v' ∧ mdf [66] v v' ∧ v' 66 = nI 1) := by
  refine CS.of (by decide) (Nat.le_of_ble_eq_true rfl) ?_
  generalize hQe : (fun (r : Option Value) (v' : Nat → Int32) => r = some (.int (nI 0)) ∧ okv v' ∧ mdf [66] v v' ∧ v' 66 = nI 1) = Q
  have hQ : ∀ u, okv u → mdf [66] v u → u 66 = nI 1 → Q (some (.int (nI 0))) u := by rw [← hQe]; exact fun u h1 h2 f0 => ⟨rfl, h1, h2, f0⟩
  clear hQe
  have hm : mdf [66] v v := mdf.rf
  show ST G mi_Mo_key 0 [(0, .ref 373), (1, .int (nI 1)), (2, .int y), (3, .int (nI i))] [] v 0 0 Q
  refine ST.lift (fun _ _ k => T_aload_n (v := .ref 373) d_Mo_key_0 rfl (Or.inr ⟨_, rfl⟩) k) ?_
  refine ST.lift (fun _ _ k => T_iconst (v := nI 0) d_Mo_key_1 (by decide) k) ?_
  refine S_putfield (v' := va_up v 66 (nI 0)) d_Mo_key_2 (fp_Mo_316 _) (w373 _) (Nat.le_of_ble_eq_true rfl) ⟨rfl, rfl⟩ (u373_0 _ _) ?_
  have hv2 := hv.off (j := 66) (x := (nI 0)) (by decide)
  have hm3 := hm.go (mdf.up (v := v) (j := 66) (x := (nI 0))) (by intro i hi; simp only [List.mem_cons, List.not_mem_nil, or_false] at hi ⊢ <;> omega)
  have e_u1 : (va_up v 66 (nI 0)) 66 = (nI 0) := by simp [va_up]
  generalize va_up v 66 (nI 0) = u1 at hv2 hm3 e_u1 ⊢
  refine ST.lift (fun _ _ k => T_iload_n d_Mo_key_5 rfl k) ?_
  refine S_static (as := [.int (nI 1)]) (rest := []) d_Mo_key_6 rfl (jw_Mo_isSession.jo (by decide)) lm_Mo_545 jt_Mo_isSession rfl (Nat.le_of_ble_eq_true rfl) (by decide) (by decide) (c_Mo_isSession G u1 1 (by omega)) (fun r v' hq => ?_)
  rw [hq.1, hq.2]
  clear hq r v'
  show ST G mi_Mo_key 9 [(0, .ref 373), (1, .int (nI 1)), (2, .int y), (3, .int (nI i))] [.int (nI 1)] u1 0 0 _
  refine S_if_eqN d_Mo_key_9 rfl (by omega) (fun c => by first | exact absurd c (by omega) | exact c.elim | exact absurd c (by decide) | exact absurd (by assumption) c | exact absurd c (by assumption) | exact absurd c (Int32.not_le.mpr (by assumption))) (fun _ => ?_)
  refine ST.lift (fun _ _ k => T_iload_n d_Mo_key_12 rfl k) ?_
  refine S_if_ltN d_Mo_key_13 rfl (by omega) (fun c => by first | exact absurd c (by omega) | exact c.elim | exact absurd c (by decide) | exact absurd (by assumption) c | exact absurd c (by assumption) | exact absurd c (Int32.not_le.mpr (by assumption))) (fun _ => ?_)
  refine ST.lift (fun _ _ k => T_iload_n d_Mo_key_16 rfl k) ?_
  refine ST.lift (fun _ _ k => T_bipush (v := nI 64) d_Mo_key_17 (by decide) k) ?_
  refine S_icmp_geN d_Mo_key_19 rfl (by omega) (by omega) (fun c => by first | exact absurd c (by omega) | exact c.elim | exact absurd c (by decide) | exact absurd (by assumption) c | exact absurd c (by assumption) | exact absurd c (Int32.not_le.mpr (by assumption))) (fun _ => ?_)
  refine ST.lift (fun _ _ k => T_iload_n d_Mo_key_22 rfl k) ?_
  refine S_if_lt d_Mo_key_23 rfl (fun c => by first | exact absurd c (by omega) | exact c.elim | exact absurd c (by decide) | exact absurd (by assumption) c | exact absurd c (by assumption) | exact absurd c (Int32.not_le.mpr (by assumption))) (fun _ => ?_)
  refine ST.lift (fun _ _ k => T_iload_n d_Mo_key_26 rfl k) ?_
  refine ST.lift (fun _ _ k => T_iconst (v := nI 3) d_Mo_key_27 (by decide) k) ?_
  refine S_icmp_ge d_Mo_key_28 rfl (fun _ => ?_) (fun c => by first | exact absurd c (by omega) | exact c.elim | exact absurd c (by decide) | exact absurd (by assumption) c | exact absurd c (by assumption) | exact absurd c (Int32.not_le.mpr (by assumption)))
  refine ST.lift (fun _ _ k => T_iconst (v := nI 0) d_Mo_key_35 (by decide) k) ?_
  refine ST.lift (fun _ _ k => T_istore (L' := [(4, .int (nI 0)), (0, .ref 373), (1, .int (nI 1)), (2, .int y), (3, .int (nI i))]) d_Mo_key_36 (by decide) rfl k) ?_
  refine ST.lift (fun _ _ k => T_iload d_Mo_key_38 rfl k) ?_
  refine S_if_eqN d_Mo_key_40 rfl (by omega) (fun _ => ?_) (fun c => by first | exact absurd c (by omega) | exact c.elim | exact absurd c (by decide) | exact absurd (by assumption) c | exact absurd c (by assumption) | exact absurd c (Int32.not_le.mpr (by assumption)))
  refine ST.lift (fun _ _ k => T_iload d_Mo_key_59 rfl k) ?_
  refine S_if_eqN d_Mo_key_61 rfl (by omega) (fun _ => ?_) (fun c => by first | exact absurd c (by omega) | exact c.elim | exact absurd c (by decide) | exact absurd (by assumption) c | exact absurd c (by assumption) | exact absurd c (Int32.not_le.mpr (by assumption)))
  refine ST.lift (fun _ _ k => T_iload d_Mo_key_72 rfl k) ?_
  refine S_if_neN d_Mo_key_74 rfl (by omega) (fun c => by first | exact absurd c (by omega) | exact c.elim | exact absurd c (by decide) | exact absurd (by assumption) c | exact absurd c (by assumption) | exact absurd c (Int32.not_le.mpr (by assumption))) (fun _ => ?_)
  refine ST.lift (fun _ _ k => T_aload_n (v := .ref 373) d_Mo_key_77 rfl (Or.inr ⟨_, rfl⟩) k) ?_
  refine ST.lift (fun _ _ k => T_iconst (v := nI 1) d_Mo_key_78 (by decide) k) ?_
  refine S_putfield (v' := va_up u1 66 (nI 1)) d_Mo_key_79 (fp_Mo_316 _) (w373 _) (Nat.le_of_ble_eq_true rfl) ⟨rfl, rfl⟩ (u373_0 _ _) ?_
  have hv5 := hv2.off (j := 66) (x := (nI 1)) (by decide)
  have hm6 := hm3.go (mdf.up (v := u1) (j := 66) (x := (nI 1))) (by intro i hi; simp only [List.mem_cons, List.not_mem_nil, or_false] at hi ⊢ <;> omega)
  have e_u4 : (va_up u1 66 (nI 1)) 66 = (nI 1) := by simp [va_up]
  generalize va_up u1 66 (nI 1) = u4 at hv5 hm6 e_u4 ⊢
  refine ST.lift (fun _ _ k => T_iconst (v := nI 0) d_Mo_key_82 (by decide) k) ?_
  refine S_topi (y := nI 0) (congrArg nI (by omega)) ?_
  exact S_ret d_Mo_key_83 rfl rfl (by decide) (by decide) (hQ _ hv5 hm6 (e_u4.trans (congrArg nI (by omega))))
set_option maxRecDepth 100000 in
set_option maxHeartbeats 4000000 in
theorem c_Mo_key_1_0 (G : GX) (v : Nat → Int32) (i : Nat) (b_i : i < 64) (hv : okv v) : CS G mi_Mo_key [.ref 373, .int (nI 1), .int (nI 0), .int (nI i)] v (fun r v' => ∃ z : Int32, r = some (.int z) ∧ okv v' ∧ mdf [66] v v') := by
  refine CS.of (by decide) (Nat.le_of_ble_eq_true rfl) ?_
  generalize hQe : (fun (r : Option Value) (v' : Nat → Int32) => ∃ z : Int32, r = some (.int z) ∧ okv v' ∧ mdf [66] v v') = Q
  have hQ : ∀ (z : Int32) (u : Nat → Int32), okv u → mdf [66] v u → Q (some (.int z)) u := by rw [← hQe]; exact fun z u h1 h2  => ⟨z, rfl, h1, h2⟩
  clear hQe
  have hm : mdf [66] v v := mdf.rf
  show ST G mi_Mo_key 0 [(0, .ref 373), (1, .int (nI 1)), (2, .int (nI 0)), (3, .int (nI i))] [] v 0 0 Q
  refine ST.lift (fun _ _ k => T_aload_n (v := .ref 373) d_Mo_key_0 rfl (Or.inr ⟨_, rfl⟩) k) ?_
  refine ST.lift (fun _ _ k => T_iconst (v := nI 0) d_Mo_key_1 (by decide) k) ?_
  refine S_putfield (v' := va_up v 66 (nI 0)) d_Mo_key_2 (fp_Mo_316 _) (w373 _) (Nat.le_of_ble_eq_true rfl) ⟨rfl, rfl⟩ (u373_0 _ _) ?_
  have hv2 := hv.off (j := 66) (x := (nI 0)) (by decide)
  have hm3 := hm.go (mdf.up (v := v) (j := 66) (x := (nI 0))) (by intro i hi; simp only [List.mem_cons, List.not_mem_nil, or_false] at hi ⊢ <;> omega)
  have e_u1 : (va_up v 66 (nI 0)) 66 = (nI 0) := by simp [va_up]
  generalize va_up v 66 (nI 0) = u1 at hv2 hm3 e_u1 ⊢
  refine ST.lift (fun _ _ k => T_iload_n d_Mo_key_5 rfl k) ?_
  refine S_static (as := [.int (nI 1)]) (rest := []) d_Mo_key_6 rfl (jw_Mo_isSession.jo (by decide)) lm_Mo_545 jt_Mo_isSession rfl (Nat.le_of_ble_eq_true rfl) (by decide) (by decide) (c_Mo_isSession G u1 1 (by omega)) (fun r v' hq => ?_)
  rw [hq.1, hq.2]
  clear hq r v'
  show ST G mi_Mo_key 9 [(0, .ref 373), (1, .int (nI 1)), (2, .int (nI 0)), (3, .int (nI i))] [.int (nI 1)] u1 0 0 _
  refine S_if_eqN d_Mo_key_9 rfl (by omega) (fun c => by first | exact absurd c (by omega) | exact c.elim | exact absurd c (by decide) | exact absurd (by assumption) c | exact absurd c (by assumption) | exact absurd c (Int32.not_le.mpr (by assumption))) (fun _ => ?_)
  refine ST.lift (fun _ _ k => T_iload_n d_Mo_key_12 rfl k) ?_
  refine S_if_ltN d_Mo_key_13 rfl (by omega) (fun c => by first | exact absurd c (by omega) | exact c.elim | exact absurd c (by decide) | exact absurd (by assumption) c | exact absurd c (by assumption) | exact absurd c (Int32.not_le.mpr (by assumption))) (fun _ => ?_)
  refine ST.lift (fun _ _ k => T_iload_n d_Mo_key_16 rfl k) ?_
  refine ST.lift (fun _ _ k => T_bipush (v := nI 64) d_Mo_key_17 (by decide) k) ?_
  have J36_6 : ∀ (z5 : Nat) (hz5 : z5 ≤ 1), ST G mi_Mo_key 36 [(0, .ref 373), (1, .int (nI 1)), (2, .int (nI 0)), (3, .int (nI i))] [.int (nI z5)] u1 0 0 Q := by
    intro z5 hz5
    refine ST.lift (fun _ _ k => T_istore (L' := [(4, .int (nI z5)), (0, .ref 373), (1, .int (nI 1)), (2, .int (nI 0)), (3, .int (nI i))]) d_Mo_key_36 (by decide) rfl k) ?_
    refine ST.lift (fun _ _ k => T_iload d_Mo_key_38 rfl k) ?_
    have J72_11 : ∀ (z10 : Int32), ST G mi_Mo_key 72 [(4, .int z10), (0, .ref 373), (1, .int (nI 1)), (2, .int (nI 0)), (3, .int (nI i))] [] u1 0 0 Q := by
      intro z10
      refine ST.lift (fun _ _ k => T_iload d_Mo_key_72 rfl k) ?_
      refine S_if_ne d_Mo_key_74 rfl (fun c12 => ?_) (fun c12 => ?_)
      · refine ST.lift (fun _ _ k => T_iload_n d_Mo_key_84 rfl k) ?_
        refine S_if_neN d_Mo_key_85 rfl (by omega) (fun c => by first | exact absurd c (by omega) | exact c.elim | exact absurd c (by decide) | exact absurd (by assumption) c | exact absurd c (by assumption) | exact absurd c (Int32.not_le.mpr (by assumption))) (fun _ => ?_)
        refine ST.lift (fun _ _ k => T_aload_n (v := .ref 373) d_Mo_key_88 rfl (Or.inr ⟨_, rfl⟩) k) ?_
        refine S_getfield d_Mo_key_89 fg_Mo_431 (w373 _) rfl ?_
        refine ST.lift (fun _ _ k => T_bipush (v := nI 64) d_Mo_key_92 (by decide) k) ?_
        refine ST.lift (fun _ _ k => T_iload_n d_Mo_key_94 rfl k) ?_
        refine S_imulN d_Mo_key_95 ?_
        refine S_topi (y := nI 64) (by decide) ?_
        refine ST.lift (fun _ _ k => T_iload_n d_Mo_key_96 rfl k) ?_
        refine S_iaddN d_Mo_key_97 ?_
        refine S_iaload d_Mo_key_98 a437 (vp_in_nI (by omega) (by omega)) (fun z13 => ?_)
        exact S_ret d_Mo_key_99 rfl rfl (by decide) (by decide) (hQ _ _ hv2 hm3)
      · refine ST.lift (fun _ _ k => T_aload_n (v := .ref 373) d_Mo_key_77 rfl (Or.inr ⟨_, rfl⟩) k) ?_
        refine ST.lift (fun _ _ k => T_iconst (v := nI 1) d_Mo_key_78 (by decide) k) ?_
        refine S_putfield (v' := va_up u1 66 (nI 1)) d_Mo_key_79 (fp_Mo_316 _) (w373 _) (Nat.le_of_ble_eq_true rfl) ⟨rfl, rfl⟩ (u373_0 _ _) ?_
        have hv15 := hv2.off (j := 66) (x := (nI 1)) (by decide)
        have hm16 := hm3.go (mdf.up (v := u1) (j := 66) (x := (nI 1))) (by intro i hi; simp only [List.mem_cons, List.not_mem_nil, or_false] at hi ⊢ <;> omega)
        have e_u14 : (va_up u1 66 (nI 1)) 66 = (nI 1) := by simp [va_up]
        generalize va_up u1 66 (nI 1) = u14 at hv15 hm16 e_u14 ⊢
        refine ST.lift (fun _ _ k => T_iconst (v := nI 0) d_Mo_key_82 (by decide) k) ?_
        exact S_ret d_Mo_key_83 rfl rfl (by decide) (by decide) (hQ _ _ hv15 hm16)
    refine S_if_eqN d_Mo_key_40 rfl (by omega) (fun c7 => ?_) (fun c7 => ?_)
    · refine ST.lift (fun _ _ k => T_iload d_Mo_key_59 rfl k) ?_
      refine S_if_eqN d_Mo_key_61 rfl (by omega) (fun c17 => ?_) (fun c17 => ?_)
      · exact J72_11 (nI z5)
      · refine ST.lift (fun _ _ k => T_aload_n (v := .ref 373) d_Mo_key_64 rfl (Or.inr ⟨_, rfl⟩) k) ?_
        refine S_getfield d_Mo_key_65 fg_Mo_410 (w373 _) rfl ?_
        refine ST.lift (fun _ _ k => T_iload_n d_Mo_key_68 rfl k) ?_
        refine S_xload (t := 3) (k := 1) (Or.inr ⟨rfl, d_Mo_key_69⟩) rfl (w430 _) (by decide) (by decide) ?_
        refine S_topi (y := u1 121) rfl ?_
        refine ST.lift (fun _ _ k => T_istore (L' := [(4, .int (u1 121)), (0, .ref 373), (1, .int (nI 1)), (2, .int (nI 0)), (3, .int (nI i))]) d_Mo_key_70 (by decide) rfl k) ?_
        exact J72_11 (u1 121)
    · refine ST.lift (fun _ _ k => T_iload_n d_Mo_key_43 rfl k) ?_
      refine ST.lift (fun _ _ k => T_iconst (v := nI 1) d_Mo_key_44 (by decide) k) ?_
      refine S_icmp_neN d_Mo_key_45 rfl (by omega) (by omega) (fun _ => ?_) (fun c => by first | exact absurd c (by omega) | exact c.elim | exact absurd c (by decide) | exact absurd (by assumption) c | exact absurd c (by assumption) | exact absurd c (Int32.not_le.mpr (by assumption)))
      refine ST.lift (fun _ _ k => T_iload d_Mo_key_59 rfl k) ?_
      refine S_if_eqN d_Mo_key_61 rfl (by omega) (fun c18 => ?_) (fun c18 => ?_)
      · exact J72_11 (nI z5)
      · refine ST.lift (fun _ _ k => T_aload_n (v := .ref 373) d_Mo_key_64 rfl (Or.inr ⟨_, rfl⟩) k) ?_
        refine S_getfield d_Mo_key_65 fg_Mo_410 (w373 _) rfl ?_
        refine ST.lift (fun _ _ k => T_iload_n d_Mo_key_68 rfl k) ?_
        refine S_xload (t := 3) (k := 1) (Or.inr ⟨rfl, d_Mo_key_69⟩) rfl (w430 _) (by decide) (by decide) ?_
        refine S_topi (y := u1 121) rfl ?_
        refine ST.lift (fun _ _ k => T_istore (L' := [(4, .int (u1 121)), (0, .ref 373), (1, .int (nI 1)), (2, .int (nI 0)), (3, .int (nI i))]) d_Mo_key_70 (by decide) rfl k) ?_
        exact J72_11 (u1 121)
  refine S_icmp_geN d_Mo_key_19 rfl (by omega) (by omega) (fun c4 => ?_) (fun c4 => ?_)
  · refine ST.lift (fun _ _ k => T_iconst (v := nI 0) d_Mo_key_35 (by decide) k) ?_
    exact J36_6 0 (by omega)
  · refine ST.lift (fun _ _ k => T_iload_n d_Mo_key_22 rfl k) ?_
    refine S_if_ltN d_Mo_key_23 rfl (by omega) (fun c => by first | exact absurd c (by omega) | exact c.elim | exact absurd c (by decide) | exact absurd (by assumption) c | exact absurd c (by assumption) | exact absurd c (Int32.not_le.mpr (by assumption))) (fun _ => ?_)
    refine ST.lift (fun _ _ k => T_iload_n d_Mo_key_26 rfl k) ?_
    refine ST.lift (fun _ _ k => T_iconst (v := nI 3) d_Mo_key_27 (by decide) k) ?_
    refine S_icmp_geN d_Mo_key_28 rfl (by omega) (by omega) (fun c => by first | exact absurd c (by omega) | exact c.elim | exact absurd c (by decide) | exact absurd (by assumption) c | exact absurd c (by assumption) | exact absurd c (Int32.not_le.mpr (by assumption))) (fun _ => ?_)
    refine ST.lift (fun _ _ k => T_iconst (v := nI 1) d_Mo_key_31 (by decide) k) ?_
    refine ST.lift (fun _ _ k => T_goto (tgt := 36) d_Mo_key_32 rfl k) ?_
    exact J36_6 1 (by omega)
set_option maxRecDepth 100000 in
set_option maxHeartbeats 4000000 in
theorem c_Mo_key_1_0_not (G : GX) (v : Nat → Int32) (i : Nat) (b_i : i < 64) (e121 : v 121 = nI 0) (hv : okv v) : CS G mi_Mo_key [.ref 373, .int (nI 1), .int (nI 0), .int (nI i)] v (fun r v' => r = some (.int (nI 0)) ∧ okv v' ∧ mdf [66] v v' ∧ v' 66 = nI 1) := by
  refine CS.of (by decide) (Nat.le_of_ble_eq_true rfl) ?_
  generalize hQe : (fun (r : Option Value) (v' : Nat → Int32) => r = some (.int (nI 0)) ∧ okv v' ∧ mdf [66] v v' ∧ v' 66 = nI 1) = Q
  have hQ : ∀ u, okv u → mdf [66] v u → u 66 = nI 1 → Q (some (.int (nI 0))) u := by rw [← hQe]; exact fun u h1 h2 f0 => ⟨rfl, h1, h2, f0⟩
  clear hQe
  have hm : mdf [66] v v := mdf.rf
  show ST G mi_Mo_key 0 [(0, .ref 373), (1, .int (nI 1)), (2, .int (nI 0)), (3, .int (nI i))] [] v 0 0 Q
  refine ST.lift (fun _ _ k => T_aload_n (v := .ref 373) d_Mo_key_0 rfl (Or.inr ⟨_, rfl⟩) k) ?_
  refine ST.lift (fun _ _ k => T_iconst (v := nI 0) d_Mo_key_1 (by decide) k) ?_
  refine S_putfield (v' := va_up v 66 (nI 0)) d_Mo_key_2 (fp_Mo_316 _) (w373 _) (Nat.le_of_ble_eq_true rfl) ⟨rfl, rfl⟩ (u373_0 _ _) ?_
  have hv2 := hv.off (j := 66) (x := (nI 0)) (by decide)
  have hm3 := hm.go (mdf.up (v := v) (j := 66) (x := (nI 0))) (by intro i hi; simp only [List.mem_cons, List.not_mem_nil, or_false] at hi ⊢ <;> omega)
  have e_u1 : (va_up v 66 (nI 0)) 66 = (nI 0) := by simp [va_up]
  have e4 : (va_up v 66 (nI 0)) 121 = nI 0 := by simp only [va_up]; exact e121
  generalize va_up v 66 (nI 0) = u1 at hv2 hm3 e_u1 e4 ⊢
  refine ST.lift (fun _ _ k => T_iload_n d_Mo_key_5 rfl k) ?_
  refine S_static (as := [.int (nI 1)]) (rest := []) d_Mo_key_6 rfl (jw_Mo_isSession.jo (by decide)) lm_Mo_545 jt_Mo_isSession rfl (Nat.le_of_ble_eq_true rfl) (by decide) (by decide) (c_Mo_isSession G u1 1 (by omega)) (fun r v' hq => ?_)
  rw [hq.1, hq.2]
  clear hq r v'
  show ST G mi_Mo_key 9 [(0, .ref 373), (1, .int (nI 1)), (2, .int (nI 0)), (3, .int (nI i))] [.int (nI 1)] u1 0 0 _
  refine S_if_eqN d_Mo_key_9 rfl (by omega) (fun c => by first | exact absurd c (by omega) | exact c.elim | exact absurd c (by decide) | exact absurd (by assumption) c | exact absurd c (by assumption) | exact absurd c (Int32.not_le.mpr (by assumption))) (fun _ => ?_)
  refine ST.lift (fun _ _ k => T_iload_n d_Mo_key_12 rfl k) ?_
  refine S_if_ltN d_Mo_key_13 rfl (by omega) (fun c => by first | exact absurd c (by omega) | exact c.elim | exact absurd c (by decide) | exact absurd (by assumption) c | exact absurd c (by assumption) | exact absurd c (Int32.not_le.mpr (by assumption))) (fun _ => ?_)
  refine ST.lift (fun _ _ k => T_iload_n d_Mo_key_16 rfl k) ?_
  refine ST.lift (fun _ _ k => T_bipush (v := nI 64) d_Mo_key_17 (by decide) k) ?_
  refine S_icmp_geN d_Mo_key_19 rfl (by omega) (by omega) (fun c => by first | exact absurd c (by omega) | exact c.elim | exact absurd c (by decide) | exact absurd (by assumption) c | exact absurd c (by assumption) | exact absurd c (Int32.not_le.mpr (by assumption))) (fun _ => ?_)
  refine ST.lift (fun _ _ k => T_iload_n d_Mo_key_22 rfl k) ?_
  refine S_if_ltN d_Mo_key_23 rfl (by omega) (fun c => by first | exact absurd c (by omega) | exact c.elim | exact absurd c (by decide) | exact absurd (by assumption) c | exact absurd c (by assumption) | exact absurd c (Int32.not_le.mpr (by assumption))) (fun _ => ?_)
  refine ST.lift (fun _ _ k => T_iload_n d_Mo_key_26 rfl k) ?_
  refine ST.lift (fun _ _ k => T_iconst (v := nI 3) d_Mo_key_27 (by decide) k) ?_
  refine S_icmp_geN d_Mo_key_28 rfl (by omega) (by omega) (fun c => by first | exact absurd c (by omega) | exact c.elim | exact absurd c (by decide) | exact absurd (by assumption) c | exact absurd c (by assumption) | exact absurd c (Int32.not_le.mpr (by assumption))) (fun _ => ?_)
  refine ST.lift (fun _ _ k => T_iconst (v := nI 1) d_Mo_key_31 (by decide) k) ?_
  refine ST.lift (fun _ _ k => T_goto (tgt := 36) d_Mo_key_32 rfl k) ?_
  refine ST.lift (fun _ _ k => T_istore (L' := [(4, .int (nI 1)), (0, .ref 373), (1, .int (nI 1)), (2, .int (nI 0)), (3, .int (nI i))]) d_Mo_key_36 (by decide) rfl k) ?_
  refine ST.lift (fun _ _ k => T_iload d_Mo_key_38 rfl k) ?_
  refine S_if_eqN d_Mo_key_40 rfl (by omega) (fun c => by first | exact absurd c (by omega) | exact c.elim | exact absurd c (by decide) | exact absurd (by assumption) c | exact absurd c (by assumption) | exact absurd c (Int32.not_le.mpr (by assumption))) (fun _ => ?_)
  refine ST.lift (fun _ _ k => T_iload_n d_Mo_key_43 rfl k) ?_
  refine ST.lift (fun _ _ k => T_iconst (v := nI 1) d_Mo_key_44 (by decide) k) ?_
  refine S_icmp_neN d_Mo_key_45 rfl (by omega) (by omega) (fun _ => ?_) (fun c => by first | exact absurd c (by omega) | exact c.elim | exact absurd c (by decide) | exact absurd (by assumption) c | exact absurd c (by assumption) | exact absurd c (Int32.not_le.mpr (by assumption)))
  refine ST.lift (fun _ _ k => T_iload d_Mo_key_59 rfl k) ?_
  refine S_if_eqN d_Mo_key_61 rfl (by omega) (fun c => by first | exact absurd c (by omega) | exact c.elim | exact absurd c (by decide) | exact absurd (by assumption) c | exact absurd c (by assumption) | exact absurd c (Int32.not_le.mpr (by assumption))) (fun _ => ?_)
  refine ST.lift (fun _ _ k => T_aload_n (v := .ref 373) d_Mo_key_64 rfl (Or.inr ⟨_, rfl⟩) k) ?_
  refine S_getfield d_Mo_key_65 fg_Mo_410 (w373 _) rfl ?_
  refine ST.lift (fun _ _ k => T_iload_n d_Mo_key_68 rfl k) ?_
  refine S_xload (t := 3) (k := 1) (Or.inr ⟨rfl, d_Mo_key_69⟩) rfl (w430 _) (by decide) (by decide) ?_
  refine S_topi (y := u1 121) rfl ?_
  refine S_topi (y := nI 0) (e4) ?_
  refine ST.lift (fun _ _ k => T_istore (L' := [(4, .int (nI 0)), (0, .ref 373), (1, .int (nI 1)), (2, .int (nI 0)), (3, .int (nI i))]) d_Mo_key_70 (by decide) rfl k) ?_
  refine ST.lift (fun _ _ k => T_iload d_Mo_key_72 rfl k) ?_
  refine S_if_neN d_Mo_key_74 rfl (by omega) (fun c => by first | exact absurd c (by omega) | exact c.elim | exact absurd c (by decide) | exact absurd (by assumption) c | exact absurd c (by assumption) | exact absurd c (Int32.not_le.mpr (by assumption))) (fun _ => ?_)
  refine ST.lift (fun _ _ k => T_aload_n (v := .ref 373) d_Mo_key_77 rfl (Or.inr ⟨_, rfl⟩) k) ?_
  refine ST.lift (fun _ _ k => T_iconst (v := nI 1) d_Mo_key_78 (by decide) k) ?_
  refine S_putfield (v' := va_up u1 66 (nI 1)) d_Mo_key_79 (fp_Mo_316 _) (w373 _) (Nat.le_of_ble_eq_true rfl) ⟨rfl, rfl⟩ (u373_0 _ _) ?_
  have hv6 := hv2.off (j := 66) (x := (nI 1)) (by decide)
  have hm7 := hm3.go (mdf.up (v := u1) (j := 66) (x := (nI 1))) (by intro i hi; simp only [List.mem_cons, List.not_mem_nil, or_false] at hi ⊢ <;> omega)
  have e_u5 : (va_up u1 66 (nI 1)) 66 = (nI 1) := by simp [va_up]
  have e8 : (va_up u1 66 (nI 1)) 121 = nI 0 := by simp only [va_up]; exact e4
  generalize va_up u1 66 (nI 1) = u5 at hv6 hm7 e_u5 e8 ⊢
  refine ST.lift (fun _ _ k => T_iconst (v := nI 0) d_Mo_key_82 (by decide) k) ?_
  refine S_topi (y := nI 0) (congrArg nI (by omega)) ?_
  exact S_ret d_Mo_key_83 rfl rfl (by decide) (by decide) (hQ _ hv6 hm7 (e_u5.trans (congrArg nI (by omega))))
set_option maxRecDepth 100000 in
set_option maxHeartbeats 4000000 in
theorem c_Mo_key_1_1 (G : GX) (v : Nat → Int32) (i : Nat) (b_i : i < 64) (hv : okv v) : CS G mi_Mo_key [.ref 373, .int (nI 1), .int (nI 1), .int (nI i)] v (fun r v' => ∃ z : Int32, r = some (.int z) ∧ okv v' ∧ mdf [66] v v') := by
  refine CS.of (by decide) (Nat.le_of_ble_eq_true rfl) ?_
  generalize hQe : (fun (r : Option Value) (v' : Nat → Int32) => ∃ z : Int32, r = some (.int z) ∧ okv v' ∧ mdf [66] v v') = Q
  have hQ : ∀ (z : Int32) (u : Nat → Int32), okv u → mdf [66] v u → Q (some (.int z)) u := by rw [← hQe]; exact fun z u h1 h2  => ⟨z, rfl, h1, h2⟩
  clear hQe
  have hm : mdf [66] v v := mdf.rf
  show ST G mi_Mo_key 0 [(0, .ref 373), (1, .int (nI 1)), (2, .int (nI 1)), (3, .int (nI i))] [] v 0 0 Q
  refine ST.lift (fun _ _ k => T_aload_n (v := .ref 373) d_Mo_key_0 rfl (Or.inr ⟨_, rfl⟩) k) ?_
  refine ST.lift (fun _ _ k => T_iconst (v := nI 0) d_Mo_key_1 (by decide) k) ?_
  refine S_putfield (v' := va_up v 66 (nI 0)) d_Mo_key_2 (fp_Mo_316 _) (w373 _) (Nat.le_of_ble_eq_true rfl) ⟨rfl, rfl⟩ (u373_0 _ _) ?_
  have hv2 := hv.off (j := 66) (x := (nI 0)) (by decide)
  have hm3 := hm.go (mdf.up (v := v) (j := 66) (x := (nI 0))) (by intro i hi; simp only [List.mem_cons, List.not_mem_nil, or_false] at hi ⊢ <;> omega)
  have e_u1 : (va_up v 66 (nI 0)) 66 = (nI 0) := by simp [va_up]
  generalize va_up v 66 (nI 0) = u1 at hv2 hm3 e_u1 ⊢
  refine ST.lift (fun _ _ k => T_iload_n d_Mo_key_5 rfl k) ?_
  refine S_static (as := [.int (nI 1)]) (rest := []) d_Mo_key_6 rfl (jw_Mo_isSession.jo (by decide)) lm_Mo_545 jt_Mo_isSession rfl (Nat.le_of_ble_eq_true rfl) (by decide) (by decide) (c_Mo_isSession G u1 1 (by omega)) (fun r v' hq => ?_)
  rw [hq.1, hq.2]
  clear hq r v'
  show ST G mi_Mo_key 9 [(0, .ref 373), (1, .int (nI 1)), (2, .int (nI 1)), (3, .int (nI i))] [.int (nI 1)] u1 0 0 _
  refine S_if_eqN d_Mo_key_9 rfl (by omega) (fun c => by first | exact absurd c (by omega) | exact c.elim | exact absurd c (by decide) | exact absurd (by assumption) c | exact absurd c (by assumption) | exact absurd c (Int32.not_le.mpr (by assumption))) (fun _ => ?_)
  refine ST.lift (fun _ _ k => T_iload_n d_Mo_key_12 rfl k) ?_
  refine S_if_ltN d_Mo_key_13 rfl (by omega) (fun c => by first | exact absurd c (by omega) | exact c.elim | exact absurd c (by decide) | exact absurd (by assumption) c | exact absurd c (by assumption) | exact absurd c (Int32.not_le.mpr (by assumption))) (fun _ => ?_)
  refine ST.lift (fun _ _ k => T_iload_n d_Mo_key_16 rfl k) ?_
  refine ST.lift (fun _ _ k => T_bipush (v := nI 64) d_Mo_key_17 (by decide) k) ?_
  have J36_6 : ∀ (z5 : Nat) (hz5 : z5 ≤ 1), ST G mi_Mo_key 36 [(0, .ref 373), (1, .int (nI 1)), (2, .int (nI 1)), (3, .int (nI i))] [.int (nI z5)] u1 0 0 Q := by
    intro z5 hz5
    refine ST.lift (fun _ _ k => T_istore (L' := [(4, .int (nI z5)), (0, .ref 373), (1, .int (nI 1)), (2, .int (nI 1)), (3, .int (nI i))]) d_Mo_key_36 (by decide) rfl k) ?_
    refine ST.lift (fun _ _ k => T_iload d_Mo_key_38 rfl k) ?_
    have J72_10 : ∀ (z9 : Int32), ST G mi_Mo_key 72 [(4, .int z9), (0, .ref 373), (1, .int (nI 1)), (2, .int (nI 1)), (3, .int (nI i))] [] u1 0 0 Q := by
      intro z9
      refine ST.lift (fun _ _ k => T_iload d_Mo_key_72 rfl k) ?_
      refine S_if_ne d_Mo_key_74 rfl (fun c11 => ?_) (fun c11 => ?_)
      · refine ST.lift (fun _ _ k => T_iload_n d_Mo_key_84 rfl k) ?_
        refine S_if_neN d_Mo_key_85 rfl (by omega) (fun _ => ?_) (fun c => by first | exact absurd c (by omega) | exact c.elim | exact absurd c (by decide) | exact absurd (by assumption) c | exact absurd c (by assumption) | exact absurd c (Int32.not_le.mpr (by assumption)))
        refine ST.lift (fun _ _ k => T_iload_n d_Mo_key_100 rfl k) ?_
        refine ST.lift (fun _ _ k => T_iconst (v := nI 1) d_Mo_key_101 (by decide) k) ?_
        refine S_icmp_neN d_Mo_key_102 rfl (by omega) (by omega) (fun c => by first | exact absurd c (by omega) | exact c.elim | exact absurd c (by decide) | exact absurd (by assumption) c | exact absurd c (by assumption) | exact absurd c (Int32.not_le.mpr (by assumption))) (fun _ => ?_)
        refine ST.lift (fun _ _ k => T_aload_n (v := .ref 373) d_Mo_key_105 rfl (Or.inr ⟨_, rfl⟩) k) ?_
        refine S_getfield d_Mo_key_106 fg_Mo_434 (w373 _) rfl ?_
        refine ST.lift (fun _ _ k => T_bipush (v := nI 64) d_Mo_key_109 (by decide) k) ?_
        refine ST.lift (fun _ _ k => T_iload_n d_Mo_key_111 rfl k) ?_
        refine S_imulN d_Mo_key_112 ?_
        refine S_topi (y := nI 64) (by decide) ?_
        refine ST.lift (fun _ _ k => T_iload_n d_Mo_key_113 rfl k) ?_
        refine S_iaddN d_Mo_key_114 ?_
        refine S_iaload d_Mo_key_115 a438 (vp_in_nI (by omega) (by omega)) (fun z12 => ?_)
        exact S_ret d_Mo_key_116 rfl rfl (by decide) (by decide) (hQ _ _ hv2 hm3)
      · refine ST.lift (fun _ _ k => T_aload_n (v := .ref 373) d_Mo_key_77 rfl (Or.inr ⟨_, rfl⟩) k) ?_
        refine ST.lift (fun _ _ k => T_iconst (v := nI 1) d_Mo_key_78 (by decide) k) ?_
        refine S_putfield (v' := va_up u1 66 (nI 1)) d_Mo_key_79 (fp_Mo_316 _) (w373 _) (Nat.le_of_ble_eq_true rfl) ⟨rfl, rfl⟩ (u373_0 _ _) ?_
        have hv14 := hv2.off (j := 66) (x := (nI 1)) (by decide)
        have hm15 := hm3.go (mdf.up (v := u1) (j := 66) (x := (nI 1))) (by intro i hi; simp only [List.mem_cons, List.not_mem_nil, or_false] at hi ⊢ <;> omega)
        have e_u13 : (va_up u1 66 (nI 1)) 66 = (nI 1) := by simp [va_up]
        generalize va_up u1 66 (nI 1) = u13 at hv14 hm15 e_u13 ⊢
        refine ST.lift (fun _ _ k => T_iconst (v := nI 0) d_Mo_key_82 (by decide) k) ?_
        exact S_ret d_Mo_key_83 rfl rfl (by decide) (by decide) (hQ _ _ hv14 hm15)
    refine S_if_eqN d_Mo_key_40 rfl (by omega) (fun c7 => ?_) (fun c7 => ?_)
    · refine ST.lift (fun _ _ k => T_iload d_Mo_key_59 rfl k) ?_
      refine S_if_eqN d_Mo_key_61 rfl (by omega) (fun c16 => ?_) (fun c16 => ?_)
      · exact J72_10 (nI z5)
      · refine ST.lift (fun _ _ k => T_aload_n (v := .ref 373) d_Mo_key_64 rfl (Or.inr ⟨_, rfl⟩) k) ?_
        refine S_getfield d_Mo_key_65 fg_Mo_410 (w373 _) rfl ?_
        refine ST.lift (fun _ _ k => T_iload_n d_Mo_key_68 rfl k) ?_
        refine S_xload (t := 3) (k := 1) (Or.inr ⟨rfl, d_Mo_key_69⟩) rfl (w430 _) (by decide) (by decide) ?_
        refine S_topi (y := u1 121) rfl ?_
        refine ST.lift (fun _ _ k => T_istore (L' := [(4, .int (u1 121)), (0, .ref 373), (1, .int (nI 1)), (2, .int (nI 1)), (3, .int (nI i))]) d_Mo_key_70 (by decide) rfl k) ?_
        exact J72_10 (u1 121)
    · refine ST.lift (fun _ _ k => T_iload_n d_Mo_key_43 rfl k) ?_
      refine ST.lift (fun _ _ k => T_iconst (v := nI 1) d_Mo_key_44 (by decide) k) ?_
      refine S_icmp_neN d_Mo_key_45 rfl (by omega) (by omega) (fun c => by first | exact absurd c (by omega) | exact c.elim | exact absurd c (by decide) | exact absurd (by assumption) c | exact absurd c (by assumption) | exact absurd c (Int32.not_le.mpr (by assumption))) (fun _ => ?_)
      refine ST.lift (fun _ _ k => T_aload_n (v := .ref 373) d_Mo_key_48 rfl (Or.inr ⟨_, rfl⟩) k) ?_
      refine S_getfield d_Mo_key_49 fg_Mo_413 (w373 _) rfl ?_
      refine ST.lift (fun _ _ k => T_iload_n d_Mo_key_52 rfl k) ?_
      refine S_xload (t := 3) (k := 1) (Or.inr ⟨rfl, d_Mo_key_53⟩) rfl (w431 _) (by decide) (by decide) ?_
      refine S_topi (y := u1 125) rfl ?_
      refine ST.lift (fun _ _ k => T_istore (L' := [(4, .int (u1 125)), (0, .ref 373), (1, .int (nI 1)), (2, .int (nI 1)), (3, .int (nI i))]) d_Mo_key_54 (by decide) rfl k) ?_
      refine ST.lift (fun _ _ k => T_goto (tgt := 72) d_Mo_key_56 rfl k) ?_
      exact J72_10 (u1 125)
  refine S_icmp_geN d_Mo_key_19 rfl (by omega) (by omega) (fun c4 => ?_) (fun c4 => ?_)
  · refine ST.lift (fun _ _ k => T_iconst (v := nI 0) d_Mo_key_35 (by decide) k) ?_
    exact J36_6 0 (by omega)
  · refine ST.lift (fun _ _ k => T_iload_n d_Mo_key_22 rfl k) ?_
    refine S_if_ltN d_Mo_key_23 rfl (by omega) (fun c => by first | exact absurd c (by omega) | exact c.elim | exact absurd c (by decide) | exact absurd (by assumption) c | exact absurd c (by assumption) | exact absurd c (Int32.not_le.mpr (by assumption))) (fun _ => ?_)
    refine ST.lift (fun _ _ k => T_iload_n d_Mo_key_26 rfl k) ?_
    refine ST.lift (fun _ _ k => T_iconst (v := nI 3) d_Mo_key_27 (by decide) k) ?_
    refine S_icmp_geN d_Mo_key_28 rfl (by omega) (by omega) (fun c => by first | exact absurd c (by omega) | exact c.elim | exact absurd c (by decide) | exact absurd (by assumption) c | exact absurd c (by assumption) | exact absurd c (Int32.not_le.mpr (by assumption))) (fun _ => ?_)
    refine ST.lift (fun _ _ k => T_iconst (v := nI 1) d_Mo_key_31 (by decide) k) ?_
    refine ST.lift (fun _ _ k => T_goto (tgt := 36) d_Mo_key_32 rfl k) ?_
    exact J36_6 1 (by omega)
set_option maxRecDepth 100000 in
set_option maxHeartbeats 4000000 in
theorem c_Mo_key_1_1_not (G : GX) (v : Nat → Int32) (i : Nat) (b_i : i < 64) (e125 : v 125 = nI 0) (hv : okv v) : CS G mi_Mo_key [.ref 373, .int (nI 1), .int (nI 1), .int (nI i)] v (fun r v' => r = some (.int (nI 0)) ∧ okv v' ∧ mdf [66] v v' ∧ v' 66 = nI 1) := by
  refine CS.of (by decide) (Nat.le_of_ble_eq_true rfl) ?_
  generalize hQe : (fun (r : Option Value) (v' : Nat → Int32) => r = some (.int (nI 0)) ∧ okv v' ∧ mdf [66] v v' ∧ v' 66 = nI 1) = Q
  have hQ : ∀ u, okv u → mdf [66] v u → u 66 = nI 1 → Q (some (.int (nI 0))) u := by rw [← hQe]; exact fun u h1 h2 f0 => ⟨rfl, h1, h2, f0⟩
  clear hQe
  have hm : mdf [66] v v := mdf.rf
  show ST G mi_Mo_key 0 [(0, .ref 373), (1, .int (nI 1)), (2, .int (nI 1)), (3, .int (nI i))] [] v 0 0 Q
  refine ST.lift (fun _ _ k => T_aload_n (v := .ref 373) d_Mo_key_0 rfl (Or.inr ⟨_, rfl⟩) k) ?_
  refine ST.lift (fun _ _ k => T_iconst (v := nI 0) d_Mo_key_1 (by decide) k) ?_
  refine S_putfield (v' := va_up v 66 (nI 0)) d_Mo_key_2 (fp_Mo_316 _) (w373 _) (Nat.le_of_ble_eq_true rfl) ⟨rfl, rfl⟩ (u373_0 _ _) ?_
  have hv2 := hv.off (j := 66) (x := (nI 0)) (by decide)
  have hm3 := hm.go (mdf.up (v := v) (j := 66) (x := (nI 0))) (by intro i hi; simp only [List.mem_cons, List.not_mem_nil, or_false] at hi ⊢ <;> omega)
  have e_u1 : (va_up v 66 (nI 0)) 66 = (nI 0) := by simp [va_up]
  have e4 : (va_up v 66 (nI 0)) 125 = nI 0 := by simp only [va_up]; exact e125
  generalize va_up v 66 (nI 0) = u1 at hv2 hm3 e_u1 e4 ⊢
  refine ST.lift (fun _ _ k => T_iload_n d_Mo_key_5 rfl k) ?_
  refine S_static (as := [.int (nI 1)]) (rest := []) d_Mo_key_6 rfl (jw_Mo_isSession.jo (by decide)) lm_Mo_545 jt_Mo_isSession rfl (Nat.le_of_ble_eq_true rfl) (by decide) (by decide) (c_Mo_isSession G u1 1 (by omega)) (fun r v' hq => ?_)
  rw [hq.1, hq.2]
  clear hq r v'
  show ST G mi_Mo_key 9 [(0, .ref 373), (1, .int (nI 1)), (2, .int (nI 1)), (3, .int (nI i))] [.int (nI 1)] u1 0 0 _
  refine S_if_eqN d_Mo_key_9 rfl (by omega) (fun c => by first | exact absurd c (by omega) | exact c.elim | exact absurd c (by decide) | exact absurd (by assumption) c | exact absurd c (by assumption) | exact absurd c (Int32.not_le.mpr (by assumption))) (fun _ => ?_)
  refine ST.lift (fun _ _ k => T_iload_n d_Mo_key_12 rfl k) ?_
  refine S_if_ltN d_Mo_key_13 rfl (by omega) (fun c => by first | exact absurd c (by omega) | exact c.elim | exact absurd c (by decide) | exact absurd (by assumption) c | exact absurd c (by assumption) | exact absurd c (Int32.not_le.mpr (by assumption))) (fun _ => ?_)
  refine ST.lift (fun _ _ k => T_iload_n d_Mo_key_16 rfl k) ?_
  refine ST.lift (fun _ _ k => T_bipush (v := nI 64) d_Mo_key_17 (by decide) k) ?_
  refine S_icmp_geN d_Mo_key_19 rfl (by omega) (by omega) (fun c => by first | exact absurd c (by omega) | exact c.elim | exact absurd c (by decide) | exact absurd (by assumption) c | exact absurd c (by assumption) | exact absurd c (Int32.not_le.mpr (by assumption))) (fun _ => ?_)
  refine ST.lift (fun _ _ k => T_iload_n d_Mo_key_22 rfl k) ?_
  refine S_if_ltN d_Mo_key_23 rfl (by omega) (fun c => by first | exact absurd c (by omega) | exact c.elim | exact absurd c (by decide) | exact absurd (by assumption) c | exact absurd c (by assumption) | exact absurd c (Int32.not_le.mpr (by assumption))) (fun _ => ?_)
  refine ST.lift (fun _ _ k => T_iload_n d_Mo_key_26 rfl k) ?_
  refine ST.lift (fun _ _ k => T_iconst (v := nI 3) d_Mo_key_27 (by decide) k) ?_
  refine S_icmp_geN d_Mo_key_28 rfl (by omega) (by omega) (fun c => by first | exact absurd c (by omega) | exact c.elim | exact absurd c (by decide) | exact absurd (by assumption) c | exact absurd c (by assumption) | exact absurd c (Int32.not_le.mpr (by assumption))) (fun _ => ?_)
  refine ST.lift (fun _ _ k => T_iconst (v := nI 1) d_Mo_key_31 (by decide) k) ?_
  refine ST.lift (fun _ _ k => T_goto (tgt := 36) d_Mo_key_32 rfl k) ?_
  refine ST.lift (fun _ _ k => T_istore (L' := [(4, .int (nI 1)), (0, .ref 373), (1, .int (nI 1)), (2, .int (nI 1)), (3, .int (nI i))]) d_Mo_key_36 (by decide) rfl k) ?_
  refine ST.lift (fun _ _ k => T_iload d_Mo_key_38 rfl k) ?_
  refine S_if_eqN d_Mo_key_40 rfl (by omega) (fun c => by first | exact absurd c (by omega) | exact c.elim | exact absurd c (by decide) | exact absurd (by assumption) c | exact absurd c (by assumption) | exact absurd c (Int32.not_le.mpr (by assumption))) (fun _ => ?_)
  refine ST.lift (fun _ _ k => T_iload_n d_Mo_key_43 rfl k) ?_
  refine ST.lift (fun _ _ k => T_iconst (v := nI 1) d_Mo_key_44 (by decide) k) ?_
  refine S_icmp_neN d_Mo_key_45 rfl (by omega) (by omega) (fun c => by first | exact absurd c (by omega) | exact c.elim | exact absurd c (by decide) | exact absurd (by assumption) c | exact absurd c (by assumption) | exact absurd c (Int32.not_le.mpr (by assumption))) (fun _ => ?_)
  refine ST.lift (fun _ _ k => T_aload_n (v := .ref 373) d_Mo_key_48 rfl (Or.inr ⟨_, rfl⟩) k) ?_
  refine S_getfield d_Mo_key_49 fg_Mo_413 (w373 _) rfl ?_
  refine ST.lift (fun _ _ k => T_iload_n d_Mo_key_52 rfl k) ?_
  refine S_xload (t := 3) (k := 1) (Or.inr ⟨rfl, d_Mo_key_53⟩) rfl (w431 _) (by decide) (by decide) ?_
  refine S_topi (y := u1 125) rfl ?_
  refine S_topi (y := nI 0) (e4) ?_
  refine ST.lift (fun _ _ k => T_istore (L' := [(4, .int (nI 0)), (0, .ref 373), (1, .int (nI 1)), (2, .int (nI 1)), (3, .int (nI i))]) d_Mo_key_54 (by decide) rfl k) ?_
  refine ST.lift (fun _ _ k => T_goto (tgt := 72) d_Mo_key_56 rfl k) ?_
  refine ST.lift (fun _ _ k => T_iload d_Mo_key_72 rfl k) ?_
  refine S_if_neN d_Mo_key_74 rfl (by omega) (fun c => by first | exact absurd c (by omega) | exact c.elim | exact absurd c (by decide) | exact absurd (by assumption) c | exact absurd c (by assumption) | exact absurd c (Int32.not_le.mpr (by assumption))) (fun _ => ?_)
  refine ST.lift (fun _ _ k => T_aload_n (v := .ref 373) d_Mo_key_77 rfl (Or.inr ⟨_, rfl⟩) k) ?_
  refine ST.lift (fun _ _ k => T_iconst (v := nI 1) d_Mo_key_78 (by decide) k) ?_
  refine S_putfield (v' := va_up u1 66 (nI 1)) d_Mo_key_79 (fp_Mo_316 _) (w373 _) (Nat.le_of_ble_eq_true rfl) ⟨rfl, rfl⟩ (u373_0 _ _) ?_
  have hv6 := hv2.off (j := 66) (x := (nI 1)) (by decide)
  have hm7 := hm3.go (mdf.up (v := u1) (j := 66) (x := (nI 1))) (by intro i hi; simp only [List.mem_cons, List.not_mem_nil, or_false] at hi ⊢ <;> omega)
  have e_u5 : (va_up u1 66 (nI 1)) 66 = (nI 1) := by simp [va_up]
  have e8 : (va_up u1 66 (nI 1)) 125 = nI 0 := by simp only [va_up]; exact e4
  generalize va_up u1 66 (nI 1) = u5 at hv6 hm7 e_u5 e8 ⊢
  refine ST.lift (fun _ _ k => T_iconst (v := nI 0) d_Mo_key_82 (by decide) k) ?_
  refine S_topi (y := nI 0) (congrArg nI (by omega)) ?_
  exact S_ret d_Mo_key_83 rfl rfl (by decide) (by decide) (hQ _ hv6 hm7 (e_u5.trans (congrArg nI (by omega))))
set_option maxRecDepth 100000 in
set_option maxHeartbeats 4000000 in
theorem c_Mo_key_1_2 (G : GX) (v : Nat → Int32) (i : Nat) (b_i : i < 64) (hv : okv v) : CS G mi_Mo_key [.ref 373, .int (nI 1), .int (nI 2), .int (nI i)] v (fun r v' => ∃ z : Int32, r = some (.int z) ∧ okv v' ∧ mdf [66] v v') := by
  refine CS.of (by decide) (Nat.le_of_ble_eq_true rfl) ?_
  generalize hQe : (fun (r : Option Value) (v' : Nat → Int32) => ∃ z : Int32, r = some (.int z) ∧ okv v' ∧ mdf [66] v v') = Q
  have hQ : ∀ (z : Int32) (u : Nat → Int32), okv u → mdf [66] v u → Q (some (.int z)) u := by rw [← hQe]; exact fun z u h1 h2  => ⟨z, rfl, h1, h2⟩
  clear hQe
  have hm : mdf [66] v v := mdf.rf
  show ST G mi_Mo_key 0 [(0, .ref 373), (1, .int (nI 1)), (2, .int (nI 2)), (3, .int (nI i))] [] v 0 0 Q
  refine ST.lift (fun _ _ k => T_aload_n (v := .ref 373) d_Mo_key_0 rfl (Or.inr ⟨_, rfl⟩) k) ?_
  refine ST.lift (fun _ _ k => T_iconst (v := nI 0) d_Mo_key_1 (by decide) k) ?_
  refine S_putfield (v' := va_up v 66 (nI 0)) d_Mo_key_2 (fp_Mo_316 _) (w373 _) (Nat.le_of_ble_eq_true rfl) ⟨rfl, rfl⟩ (u373_0 _ _) ?_
  have hv2 := hv.off (j := 66) (x := (nI 0)) (by decide)
  have hm3 := hm.go (mdf.up (v := v) (j := 66) (x := (nI 0))) (by intro i hi; simp only [List.mem_cons, List.not_mem_nil, or_false] at hi ⊢ <;> omega)
  have e_u1 : (va_up v 66 (nI 0)) 66 = (nI 0) := by simp [va_up]
  generalize va_up v 66 (nI 0) = u1 at hv2 hm3 e_u1 ⊢
  refine ST.lift (fun _ _ k => T_iload_n d_Mo_key_5 rfl k) ?_
  refine S_static (as := [.int (nI 1)]) (rest := []) d_Mo_key_6 rfl (jw_Mo_isSession.jo (by decide)) lm_Mo_545 jt_Mo_isSession rfl (Nat.le_of_ble_eq_true rfl) (by decide) (by decide) (c_Mo_isSession G u1 1 (by omega)) (fun r v' hq => ?_)
  rw [hq.1, hq.2]
  clear hq r v'
  show ST G mi_Mo_key 9 [(0, .ref 373), (1, .int (nI 1)), (2, .int (nI 2)), (3, .int (nI i))] [.int (nI 1)] u1 0 0 _
  refine S_if_eqN d_Mo_key_9 rfl (by omega) (fun c => by first | exact absurd c (by omega) | exact c.elim | exact absurd c (by decide) | exact absurd (by assumption) c | exact absurd c (by assumption) | exact absurd c (Int32.not_le.mpr (by assumption))) (fun _ => ?_)
  refine ST.lift (fun _ _ k => T_iload_n d_Mo_key_12 rfl k) ?_
  refine S_if_ltN d_Mo_key_13 rfl (by omega) (fun c => by first | exact absurd c (by omega) | exact c.elim | exact absurd c (by decide) | exact absurd (by assumption) c | exact absurd c (by assumption) | exact absurd c (Int32.not_le.mpr (by assumption))) (fun _ => ?_)
  refine ST.lift (fun _ _ k => T_iload_n d_Mo_key_16 rfl k) ?_
  refine ST.lift (fun _ _ k => T_bipush (v := nI 64) d_Mo_key_17 (by decide) k) ?_
  have J36_6 : ∀ (z5 : Nat) (hz5 : z5 ≤ 1), ST G mi_Mo_key 36 [(0, .ref 373), (1, .int (nI 1)), (2, .int (nI 2)), (3, .int (nI i))] [.int (nI z5)] u1 0 0 Q := by
    intro z5 hz5
    refine ST.lift (fun _ _ k => T_istore (L' := [(4, .int (nI z5)), (0, .ref 373), (1, .int (nI 1)), (2, .int (nI 2)), (3, .int (nI i))]) d_Mo_key_36 (by decide) rfl k) ?_
    refine ST.lift (fun _ _ k => T_iload d_Mo_key_38 rfl k) ?_
    have J72_11 : ∀ (z10 : Int32), ST G mi_Mo_key 72 [(4, .int z10), (0, .ref 373), (1, .int (nI 1)), (2, .int (nI 2)), (3, .int (nI i))] [] u1 0 0 Q := by
      intro z10
      refine ST.lift (fun _ _ k => T_iload d_Mo_key_72 rfl k) ?_
      refine S_if_ne d_Mo_key_74 rfl (fun c12 => ?_) (fun c12 => ?_)
      · refine ST.lift (fun _ _ k => T_iload_n d_Mo_key_84 rfl k) ?_
        refine S_if_neN d_Mo_key_85 rfl (by omega) (fun _ => ?_) (fun c => by first | exact absurd c (by omega) | exact c.elim | exact absurd c (by decide) | exact absurd (by assumption) c | exact absurd c (by assumption) | exact absurd c (Int32.not_le.mpr (by assumption)))
        refine ST.lift (fun _ _ k => T_iload_n d_Mo_key_100 rfl k) ?_
        refine ST.lift (fun _ _ k => T_iconst (v := nI 1) d_Mo_key_101 (by decide) k) ?_
        refine S_icmp_neN d_Mo_key_102 rfl (by omega) (by omega) (fun _ => ?_) (fun c => by first | exact absurd c (by omega) | exact c.elim | exact absurd c (by decide) | exact absurd (by assumption) c | exact absurd c (by assumption) | exact absurd c (Int32.not_le.mpr (by assumption)))
        refine ST.lift (fun _ _ k => T_aload_n (v := .ref 373) d_Mo_key_117 rfl (Or.inr ⟨_, rfl⟩) k) ?_
        refine S_getfield d_Mo_key_118 fg_Mo_437 (w373 _) rfl ?_
        refine ST.lift (fun _ _ k => T_bipush (v := nI 64) d_Mo_key_121 (by decide) k) ?_
        refine ST.lift (fun _ _ k => T_iload_n d_Mo_key_123 rfl k) ?_
        refine S_imulN d_Mo_key_124 ?_
        refine S_topi (y := nI 64) (by decide) ?_
        refine ST.lift (fun _ _ k => T_iload_n d_Mo_key_125 rfl k) ?_
        refine S_iaddN d_Mo_key_126 ?_
        refine S_iaload d_Mo_key_127 a439 (vp_in_nI (by omega) (by omega)) (fun z13 => ?_)
        exact S_ret d_Mo_key_128 rfl rfl (by decide) (by decide) (hQ _ _ hv2 hm3)
      · refine ST.lift (fun _ _ k => T_aload_n (v := .ref 373) d_Mo_key_77 rfl (Or.inr ⟨_, rfl⟩) k) ?_
        refine ST.lift (fun _ _ k => T_iconst (v := nI 1) d_Mo_key_78 (by decide) k) ?_
        refine S_putfield (v' := va_up u1 66 (nI 1)) d_Mo_key_79 (fp_Mo_316 _) (w373 _) (Nat.le_of_ble_eq_true rfl) ⟨rfl, rfl⟩ (u373_0 _ _) ?_
        have hv15 := hv2.off (j := 66) (x := (nI 1)) (by decide)
        have hm16 := hm3.go (mdf.up (v := u1) (j := 66) (x := (nI 1))) (by intro i hi; simp only [List.mem_cons, List.not_mem_nil, or_false] at hi ⊢ <;> omega)
        have e_u14 : (va_up u1 66 (nI 1)) 66 = (nI 1) := by simp [va_up]
        generalize va_up u1 66 (nI 1) = u14 at hv15 hm16 e_u14 ⊢
        refine ST.lift (fun _ _ k => T_iconst (v := nI 0) d_Mo_key_82 (by decide) k) ?_
        exact S_ret d_Mo_key_83 rfl rfl (by decide) (by decide) (hQ _ _ hv15 hm16)
    refine S_if_eqN d_Mo_key_40 rfl (by omega) (fun c7 => ?_) (fun c7 => ?_)
    · refine ST.lift (fun _ _ k => T_iload d_Mo_key_59 rfl k) ?_
      refine S_if_eqN d_Mo_key_61 rfl (by omega) (fun c17 => ?_) (fun c17 => ?_)
      · exact J72_11 (nI z5)
      · refine ST.lift (fun _ _ k => T_aload_n (v := .ref 373) d_Mo_key_64 rfl (Or.inr ⟨_, rfl⟩) k) ?_
        refine S_getfield d_Mo_key_65 fg_Mo_410 (w373 _) rfl ?_
        refine ST.lift (fun _ _ k => T_iload_n d_Mo_key_68 rfl k) ?_
        refine S_xload (t := 3) (k := 1) (Or.inr ⟨rfl, d_Mo_key_69⟩) rfl (w430 _) (by decide) (by decide) ?_
        refine S_topi (y := u1 121) rfl ?_
        refine ST.lift (fun _ _ k => T_istore (L' := [(4, .int (u1 121)), (0, .ref 373), (1, .int (nI 1)), (2, .int (nI 2)), (3, .int (nI i))]) d_Mo_key_70 (by decide) rfl k) ?_
        exact J72_11 (u1 121)
    · refine ST.lift (fun _ _ k => T_iload_n d_Mo_key_43 rfl k) ?_
      refine ST.lift (fun _ _ k => T_iconst (v := nI 1) d_Mo_key_44 (by decide) k) ?_
      refine S_icmp_neN d_Mo_key_45 rfl (by omega) (by omega) (fun _ => ?_) (fun c => by first | exact absurd c (by omega) | exact c.elim | exact absurd c (by decide) | exact absurd (by assumption) c | exact absurd c (by assumption) | exact absurd c (Int32.not_le.mpr (by assumption)))
      refine ST.lift (fun _ _ k => T_iload d_Mo_key_59 rfl k) ?_
      refine S_if_eqN d_Mo_key_61 rfl (by omega) (fun c18 => ?_) (fun c18 => ?_)
      · exact J72_11 (nI z5)
      · refine ST.lift (fun _ _ k => T_aload_n (v := .ref 373) d_Mo_key_64 rfl (Or.inr ⟨_, rfl⟩) k) ?_
        refine S_getfield d_Mo_key_65 fg_Mo_410 (w373 _) rfl ?_
        refine ST.lift (fun _ _ k => T_iload_n d_Mo_key_68 rfl k) ?_
        refine S_xload (t := 3) (k := 1) (Or.inr ⟨rfl, d_Mo_key_69⟩) rfl (w430 _) (by decide) (by decide) ?_
        refine S_topi (y := u1 121) rfl ?_
        refine ST.lift (fun _ _ k => T_istore (L' := [(4, .int (u1 121)), (0, .ref 373), (1, .int (nI 1)), (2, .int (nI 2)), (3, .int (nI i))]) d_Mo_key_70 (by decide) rfl k) ?_
        exact J72_11 (u1 121)
  refine S_icmp_geN d_Mo_key_19 rfl (by omega) (by omega) (fun c4 => ?_) (fun c4 => ?_)
  · refine ST.lift (fun _ _ k => T_iconst (v := nI 0) d_Mo_key_35 (by decide) k) ?_
    exact J36_6 0 (by omega)
  · refine ST.lift (fun _ _ k => T_iload_n d_Mo_key_22 rfl k) ?_
    refine S_if_ltN d_Mo_key_23 rfl (by omega) (fun c => by first | exact absurd c (by omega) | exact c.elim | exact absurd c (by decide) | exact absurd (by assumption) c | exact absurd c (by assumption) | exact absurd c (Int32.not_le.mpr (by assumption))) (fun _ => ?_)
    refine ST.lift (fun _ _ k => T_iload_n d_Mo_key_26 rfl k) ?_
    refine ST.lift (fun _ _ k => T_iconst (v := nI 3) d_Mo_key_27 (by decide) k) ?_
    refine S_icmp_geN d_Mo_key_28 rfl (by omega) (by omega) (fun c => by first | exact absurd c (by omega) | exact c.elim | exact absurd c (by decide) | exact absurd (by assumption) c | exact absurd c (by assumption) | exact absurd c (Int32.not_le.mpr (by assumption))) (fun _ => ?_)
    refine ST.lift (fun _ _ k => T_iconst (v := nI 1) d_Mo_key_31 (by decide) k) ?_
    refine ST.lift (fun _ _ k => T_goto (tgt := 36) d_Mo_key_32 rfl k) ?_
    exact J36_6 1 (by omega)
set_option maxRecDepth 100000 in
set_option maxHeartbeats 4000000 in
theorem c_Mo_key_1_2_not (G : GX) (v : Nat → Int32) (i : Nat) (b_i : i < 64) (e121 : v 121 = nI 0) (hv : okv v) : CS G mi_Mo_key [.ref 373, .int (nI 1), .int (nI 2), .int (nI i)] v (fun r v' => r = some (.int (nI 0)) ∧ okv v' ∧ mdf [66] v v' ∧ v' 66 = nI 1) := by
  refine CS.of (by decide) (Nat.le_of_ble_eq_true rfl) ?_
  generalize hQe : (fun (r : Option Value) (v' : Nat → Int32) => r = some (.int (nI 0)) ∧ okv v' ∧ mdf [66] v v' ∧ v' 66 = nI 1) = Q
  have hQ : ∀ u, okv u → mdf [66] v u → u 66 = nI 1 → Q (some (.int (nI 0))) u := by rw [← hQe]; exact fun u h1 h2 f0 => ⟨rfl, h1, h2, f0⟩
  clear hQe
  have hm : mdf [66] v v := mdf.rf
  show ST G mi_Mo_key 0 [(0, .ref 373), (1, .int (nI 1)), (2, .int (nI 2)), (3, .int (nI i))] [] v 0 0 Q
  refine ST.lift (fun _ _ k => T_aload_n (v := .ref 373) d_Mo_key_0 rfl (Or.inr ⟨_, rfl⟩) k) ?_
  refine ST.lift (fun _ _ k => T_iconst (v := nI 0) d_Mo_key_1 (by decide) k) ?_
  refine S_putfield (v' := va_up v 66 (nI 0)) d_Mo_key_2 (fp_Mo_316 _) (w373 _) (Nat.le_of_ble_eq_true rfl) ⟨rfl, rfl⟩ (u373_0 _ _) ?_
  have hv2 := hv.off (j := 66) (x := (nI 0)) (by decide)
  have hm3 := hm.go (mdf.up (v := v) (j := 66) (x := (nI 0))) (by intro i hi; simp only [List.mem_cons, List.not_mem_nil, or_false] at hi ⊢ <;> omega)
  have e_u1 : (va_up v 66 (nI 0)) 66 = (nI 0) := by simp [va_up]
  have e4 : (va_up v 66 (nI 0)) 121 = nI 0 := by simp only [va_up]; exact e121
  generalize va_up v 66 (nI 0) = u1 at hv2 hm3 e_u1 e4 ⊢
  refine ST.lift (fun _ _ k => T_iload_n d_Mo_key_5 rfl k) ?_
  refine S_static (as := [.int (nI 1)]) (rest := []) d_Mo_key_6 rfl (jw_Mo_isSession.jo (by decide)) lm_Mo_545 jt_Mo_isSession rfl (Nat.le_of_ble_eq_true rfl) (by decide) (by decide) (c_Mo_isSession G u1 1 (by omega)) (fun r v' hq => ?_)
  rw [hq.1, hq.2]
  clear hq r v'
  show ST G mi_Mo_key 9 [(0, .ref 373), (1, .int (nI 1)), (2, .int (nI 2)), (3, .int (nI i))] [.int (nI 1)] u1 0 0 _
  refine S_if_eqN d_Mo_key_9 rfl (by omega) (fun c => by first | exact absurd c (by omega) | exact c.elim | exact absurd c (by decide) | exact absurd (by assumption) c | exact absurd c (by assumption) | exact absurd c (Int32.not_le.mpr (by assumption))) (fun _ => ?_)
  refine ST.lift (fun _ _ k => T_iload_n d_Mo_key_12 rfl k) ?_
  refine S_if_ltN d_Mo_key_13 rfl (by omega) (fun c => by first | exact absurd c (by omega) | exact c.elim | exact absurd c (by decide) | exact absurd (by assumption) c | exact absurd c (by assumption) | exact absurd c (Int32.not_le.mpr (by assumption))) (fun _ => ?_)
  refine ST.lift (fun _ _ k => T_iload_n d_Mo_key_16 rfl k) ?_
  refine ST.lift (fun _ _ k => T_bipush (v := nI 64) d_Mo_key_17 (by decide) k) ?_
  refine S_icmp_geN d_Mo_key_19 rfl (by omega) (by omega) (fun c => by first | exact absurd c (by omega) | exact c.elim | exact absurd c (by decide) | exact absurd (by assumption) c | exact absurd c (by assumption) | exact absurd c (Int32.not_le.mpr (by assumption))) (fun _ => ?_)
  refine ST.lift (fun _ _ k => T_iload_n d_Mo_key_22 rfl k) ?_
  refine S_if_ltN d_Mo_key_23 rfl (by omega) (fun c => by first | exact absurd c (by omega) | exact c.elim | exact absurd c (by decide) | exact absurd (by assumption) c | exact absurd c (by assumption) | exact absurd c (Int32.not_le.mpr (by assumption))) (fun _ => ?_)
  refine ST.lift (fun _ _ k => T_iload_n d_Mo_key_26 rfl k) ?_
  refine ST.lift (fun _ _ k => T_iconst (v := nI 3) d_Mo_key_27 (by decide) k) ?_
  refine S_icmp_geN d_Mo_key_28 rfl (by omega) (by omega) (fun c => by first | exact absurd c (by omega) | exact c.elim | exact absurd c (by decide) | exact absurd (by assumption) c | exact absurd c (by assumption) | exact absurd c (Int32.not_le.mpr (by assumption))) (fun _ => ?_)
  refine ST.lift (fun _ _ k => T_iconst (v := nI 1) d_Mo_key_31 (by decide) k) ?_
  refine ST.lift (fun _ _ k => T_goto (tgt := 36) d_Mo_key_32 rfl k) ?_
  refine ST.lift (fun _ _ k => T_istore (L' := [(4, .int (nI 1)), (0, .ref 373), (1, .int (nI 1)), (2, .int (nI 2)), (3, .int (nI i))]) d_Mo_key_36 (by decide) rfl k) ?_
  refine ST.lift (fun _ _ k => T_iload d_Mo_key_38 rfl k) ?_
  refine S_if_eqN d_Mo_key_40 rfl (by omega) (fun c => by first | exact absurd c (by omega) | exact c.elim | exact absurd c (by decide) | exact absurd (by assumption) c | exact absurd c (by assumption) | exact absurd c (Int32.not_le.mpr (by assumption))) (fun _ => ?_)
  refine ST.lift (fun _ _ k => T_iload_n d_Mo_key_43 rfl k) ?_
  refine ST.lift (fun _ _ k => T_iconst (v := nI 1) d_Mo_key_44 (by decide) k) ?_
  refine S_icmp_neN d_Mo_key_45 rfl (by omega) (by omega) (fun _ => ?_) (fun c => by first | exact absurd c (by omega) | exact c.elim | exact absurd c (by decide) | exact absurd (by assumption) c | exact absurd c (by assumption) | exact absurd c (Int32.not_le.mpr (by assumption)))
  refine ST.lift (fun _ _ k => T_iload d_Mo_key_59 rfl k) ?_
  refine S_if_eqN d_Mo_key_61 rfl (by omega) (fun c => by first | exact absurd c (by omega) | exact c.elim | exact absurd c (by decide) | exact absurd (by assumption) c | exact absurd c (by assumption) | exact absurd c (Int32.not_le.mpr (by assumption))) (fun _ => ?_)
  refine ST.lift (fun _ _ k => T_aload_n (v := .ref 373) d_Mo_key_64 rfl (Or.inr ⟨_, rfl⟩) k) ?_
  refine S_getfield d_Mo_key_65 fg_Mo_410 (w373 _) rfl ?_
  refine ST.lift (fun _ _ k => T_iload_n d_Mo_key_68 rfl k) ?_
  refine S_xload (t := 3) (k := 1) (Or.inr ⟨rfl, d_Mo_key_69⟩) rfl (w430 _) (by decide) (by decide) ?_
  refine S_topi (y := u1 121) rfl ?_
  refine S_topi (y := nI 0) (e4) ?_
  refine ST.lift (fun _ _ k => T_istore (L' := [(4, .int (nI 0)), (0, .ref 373), (1, .int (nI 1)), (2, .int (nI 2)), (3, .int (nI i))]) d_Mo_key_70 (by decide) rfl k) ?_
  refine ST.lift (fun _ _ k => T_iload d_Mo_key_72 rfl k) ?_
  refine S_if_neN d_Mo_key_74 rfl (by omega) (fun c => by first | exact absurd c (by omega) | exact c.elim | exact absurd c (by decide) | exact absurd (by assumption) c | exact absurd c (by assumption) | exact absurd c (Int32.not_le.mpr (by assumption))) (fun _ => ?_)
  refine ST.lift (fun _ _ k => T_aload_n (v := .ref 373) d_Mo_key_77 rfl (Or.inr ⟨_, rfl⟩) k) ?_
  refine ST.lift (fun _ _ k => T_iconst (v := nI 1) d_Mo_key_78 (by decide) k) ?_
  refine S_putfield (v' := va_up u1 66 (nI 1)) d_Mo_key_79 (fp_Mo_316 _) (w373 _) (Nat.le_of_ble_eq_true rfl) ⟨rfl, rfl⟩ (u373_0 _ _) ?_
  have hv6 := hv2.off (j := 66) (x := (nI 1)) (by decide)
  have hm7 := hm3.go (mdf.up (v := u1) (j := 66) (x := (nI 1))) (by intro i hi; simp only [List.mem_cons, List.not_mem_nil, or_false] at hi ⊢ <;> omega)
  have e_u5 : (va_up u1 66 (nI 1)) 66 = (nI 1) := by simp [va_up]
  have e8 : (va_up u1 66 (nI 1)) 121 = nI 0 := by simp only [va_up]; exact e4
  generalize va_up u1 66 (nI 1) = u5 at hv6 hm7 e_u5 e8 ⊢
  refine ST.lift (fun _ _ k => T_iconst (v := nI 0) d_Mo_key_82 (by decide) k) ?_
  refine S_topi (y := nI 0) (congrArg nI (by omega)) ?_
  exact S_ret d_Mo_key_83 rfl rfl (by decide) (by decide) (hQ _ hv6 hm7 (e_u5.trans (congrArg nI (by omega))))
set_option maxRecDepth 100000 in
set_option maxHeartbeats 4000000 in
theorem c_Mo_isWire_2_neg (G : GX) (v : Nat → Int32) (y : Int32) (z : Int32) (hz_n : z < 0) (hv : okv v) : CS G mi_Mo_isWire [.ref 373, .int (nI 2), .int y, .int z] v (fun r v' => r = some (.int (nI 0)) ∧ okv v' ∧ mdf [] v v') := by
  refine CS.of (by decide) (Nat.le_of_ble_eq_true rfl) ?_
  generalize hQe : (fun (r : Option Value) (v' : Nat → Int32) => r = some (.int (nI 0)) ∧ okv v' ∧ mdf [] v v') = Q
  have hQ : ∀ u, okv u → mdf [] v u → Q (some (.int (nI 0))) u := by rw [← hQe]; exact fun u h1 h2  => ⟨rfl, h1, h2⟩
  clear hQe
  have hm : mdf [] v v := mdf.rf
  show ST G mi_Mo_isWire 0 [(0, .ref 373), (1, .int (nI 2)), (2, .int y), (3, .int z)] [] v 0 0 Q
  refine ST.lift (fun _ _ k => T_iload_n d_Mo_isWire_0 rfl k) ?_
  refine S_static (as := [.int (nI 2)]) (rest := []) d_Mo_isWire_1 rfl (jw_Mo_isSession.jo (by decide)) lm_Mo_545 jt_Mo_isSession rfl (Nat.le_of_ble_eq_true rfl) (by decide) (by decide) (c_Mo_isSession G v 2 (by omega)) (fun r v' hq => ?_)
  rw [hq.1, hq.2]
  clear hq r v'
  show ST G mi_Mo_isWire 4 [(0, .ref 373), (1, .int (nI 2)), (2, .int y), (3, .int z)] [.int (nI 1)] v 0 0 _
  refine S_if_eqN d_Mo_isWire_4 rfl (by omega) (fun c => by first | exact absurd c (by omega) | exact c.elim | exact absurd c (by decide) | exact absurd (by assumption) c | exact absurd c (by assumption) | exact absurd c (Int32.not_le.mpr (by assumption))) (fun _ => ?_)
  refine ST.lift (fun _ _ k => T_iload_n d_Mo_isWire_7 rfl k) ?_
  refine S_if_ge d_Mo_isWire_8 rfl (fun c => by first | exact absurd c (by omega) | exact c.elim | exact absurd c (by decide) | exact absurd (by assumption) c | exact absurd c (by assumption) | exact absurd c (Int32.not_le.mpr (by assumption))) (fun _ => ?_)
  refine ST.lift (fun _ _ k => T_iconst (v := nI 0) d_Mo_isWire_11 (by decide) k) ?_
  refine S_topi (y := nI 0) (congrArg nI (by omega)) ?_
  exact S_ret d_Mo_isWire_12 rfl (nar_z (by omega)) (by decide) (by decide) (hQ _ hv hm)
set_option maxRecDepth 100000 in
set_option maxHeartbeats 4000000 in
theorem c_Mo_wire_2_neg (G : GX) (v : Nat → Int32) (y : Int32) (z : Int32) (hz_n : z < 0) (hv : okv v) : CS G mi_Mo_wire [.ref 373, .int (nI 2), .int y, .int z] v (fun r v' => r = some (.int (nI 0)) ∧ okv v' ∧ mdf [66] v v' ∧ v' 66 = nI 1) := by
  refine CS.of (by decide) (Nat.le_of_ble_eq_true rfl) ?_
  generalize hQe : (fun (r : Option Value) (v' : Nat → Int32) => r = some (.int (nI 0)) ∧ okv v' ∧ mdf [66] v v' ∧ v' 66 = nI 1) = Q
  have hQ : ∀ u, okv u → mdf [66] v u → u 66 = nI 1 → Q (some (.int (nI 0))) u := by rw [← hQe]; exact fun u h1 h2 f0 => ⟨rfl, h1, h2, f0⟩
  clear hQe
  have hm : mdf [66] v v := mdf.rf
  show ST G mi_Mo_wire 0 [(0, .ref 373), (1, .int (nI 2)), (2, .int y), (3, .int z)] [] v 0 0 Q
  refine ST.lift (fun _ _ k => T_aload_n (v := .ref 373) d_Mo_wire_0 rfl (Or.inr ⟨_, rfl⟩) k) ?_
  refine ST.lift (fun _ _ k => T_iconst (v := nI 0) d_Mo_wire_1 (by decide) k) ?_
  refine S_putfield (v' := va_up v 66 (nI 0)) d_Mo_wire_2 (fp_Mo_316 _) (w373 _) (Nat.le_of_ble_eq_true rfl) ⟨rfl, rfl⟩ (u373_0 _ _) ?_
  have hv2 := hv.off (j := 66) (x := (nI 0)) (by decide)
  have hm3 := hm.go (mdf.up (v := v) (j := 66) (x := (nI 0))) (by intro i hi; simp only [List.mem_cons, List.not_mem_nil, or_false] at hi ⊢ <;> omega)
  have e_u1 : (va_up v 66 (nI 0)) 66 = (nI 0) := by simp [va_up]
  generalize va_up v 66 (nI 0) = u1 at hv2 hm3 e_u1 ⊢
  refine ST.lift (fun _ _ k => T_aload_n (v := .ref 373) d_Mo_wire_5 rfl (Or.inr ⟨_, rfl⟩) k) ?_
  refine ST.lift (fun _ _ k => T_iload_n d_Mo_wire_6 rfl k) ?_
  refine ST.lift (fun _ _ k => T_iload_n d_Mo_wire_7 rfl k) ?_
  refine ST.lift (fun _ _ k => T_iload_n d_Mo_wire_8 rfl k) ?_
  refine S_virtual (as := [.int (nI 2), .int y, .int z]) (rest := []) (b := 373) d_Mo_wire_9 rfl (jw_Mo_isWire.jo (by decide)) lm_Mo_595 ji_Mo_isWire js_Mo_isWire (w373 _) rfl rfl rfl (Nat.le_of_ble_eq_true rfl) (by decide) (by decide) (c_Mo_isWire_2_neg G u1 y z hz_n hv2) (fun r u4 hq => ?_)
  obtain ⟨hr, hv5, hm6⟩ := hq
  rw [hr]
  clear hr r
  have hm7 := hm3.go hm6 (by intro i hi; simp only [List.mem_cons, List.not_mem_nil, or_false] at hi ⊢ <;> omega)
  have e8 : u4 66 = nI 0 := (hm6 66 (by decide)).trans e_u1
  show ST G mi_Mo_wire 12 [(0, .ref 373), (1, .int (nI 2)), (2, .int y), (3, .int z)] [.int (nI 0)] u4 0 0 _
  refine S_if_neN d_Mo_wire_12 rfl (by omega) (fun c => by first | exact absurd c (by omega) | exact c.elim | exact absurd c (by decide) | exact absurd (by assumption) c | exact absurd c (by assumption) | exact absurd c (Int32.not_le.mpr (by assumption))) (fun _ => ?_)
  refine ST.lift (fun _ _ k => T_aload_n (v := .ref 373) d_Mo_wire_15 rfl (Or.inr ⟨_, rfl⟩) k) ?_
  refine ST.lift (fun _ _ k => T_iconst (v := nI 1) d_Mo_wire_16 (by decide) k) ?_
  refine S_putfield (v' := va_up u4 66 (nI 1)) d_Mo_wire_17 (fp_Mo_316 _) (w373 _) (Nat.le_of_ble_eq_true rfl) ⟨rfl, rfl⟩ (u373_0 _ _) ?_
  have hv10 := hv5.off (j := 66) (x := (nI 1)) (by decide)
  have hm11 := hm7.go (mdf.up (v := u4) (j := 66) (x := (nI 1))) (by intro i hi; simp only [List.mem_cons, List.not_mem_nil, or_false] at hi ⊢ <;> omega)
  have e_u9 : (va_up u4 66 (nI 1)) 66 = (nI 1) := by simp [va_up]
  generalize va_up u4 66 (nI 1) = u9 at hv10 hm11 e_u9 ⊢
  refine ST.lift (fun _ _ k => T_iconst (v := nI 0) d_Mo_wire_20 (by decide) k) ?_
  refine S_topi (y := nI 0) (congrArg nI (by omega)) ?_
  exact S_ret d_Mo_wire_21 rfl rfl (by decide) (by decide) (hQ _ hv10 hm11 (e_u9.trans (congrArg nI (by omega))))
set_option maxRecDepth 100000 in
set_option maxHeartbeats 4000000 in
theorem c_Mo_tamper_2_neg (G : GX) (v : Nat → Int32) (y : Int32) (z : Int32) (mask : Int32) (hz_n : z < 0) (hv : okv v) : CS G mi_Mo_tamper [.ref 373, .int (nI 2), .int y, .int z, .int mask] v (fun r v' => r = some (.int (nI 0)) ∧ okv v' ∧ mdf [66] v v' ∧ v' 66 = nI 0) := by
  refine CS.of (by decide) (Nat.le_of_ble_eq_true rfl) ?_
  generalize hQe : (fun (r : Option Value) (v' : Nat → Int32) => r = some (.int (nI 0)) ∧ okv v' ∧ mdf [66] v v' ∧ v' 66 = nI 0) = Q
  have hQ : ∀ u, okv u → mdf [66] v u → u 66 = nI 0 → Q (some (.int (nI 0))) u := by rw [← hQe]; exact fun u h1 h2 f0 => ⟨rfl, h1, h2, f0⟩
  clear hQe
  have hm : mdf [66] v v := mdf.rf
  show ST G mi_Mo_tamper 0 [(0, .ref 373), (1, .int (nI 2)), (2, .int y), (3, .int z), (4, .int mask)] [] v 0 0 Q
  refine ST.lift (fun _ _ k => T_aload_n (v := .ref 373) d_Mo_tamper_0 rfl (Or.inr ⟨_, rfl⟩) k) ?_
  refine ST.lift (fun _ _ k => T_iconst (v := nI 0) d_Mo_tamper_1 (by decide) k) ?_
  refine S_putfield (v' := va_up v 66 (nI 0)) d_Mo_tamper_2 (fp_Mo_316 _) (w373 _) (Nat.le_of_ble_eq_true rfl) ⟨rfl, rfl⟩ (u373_0 _ _) ?_
  have hv2 := hv.off (j := 66) (x := (nI 0)) (by decide)
  have hm3 := hm.go (mdf.up (v := v) (j := 66) (x := (nI 0))) (by intro i hi; simp only [List.mem_cons, List.not_mem_nil, or_false] at hi ⊢ <;> omega)
  have e_u1 : (va_up v 66 (nI 0)) 66 = (nI 0) := by simp [va_up]
  generalize va_up v 66 (nI 0) = u1 at hv2 hm3 e_u1 ⊢
  refine ST.lift (fun _ _ k => T_aload_n (v := .ref 373) d_Mo_tamper_5 rfl (Or.inr ⟨_, rfl⟩) k) ?_
  refine ST.lift (fun _ _ k => T_iload_n d_Mo_tamper_6 rfl k) ?_
  refine ST.lift (fun _ _ k => T_iload_n d_Mo_tamper_7 rfl k) ?_
  refine ST.lift (fun _ _ k => T_iload_n d_Mo_tamper_8 rfl k) ?_
  refine S_virtual (as := [.int (nI 2), .int y, .int z]) (rest := []) (b := 373) d_Mo_tamper_9 rfl (jw_Mo_isWire.jo (by decide)) lm_Mo_595 ji_Mo_isWire js_Mo_isWire (w373 _) rfl rfl rfl (Nat.le_of_ble_eq_true rfl) (by decide) (by decide) (c_Mo_isWire_2_neg G u1 y z hz_n hv2) (fun r u4 hq => ?_)
  obtain ⟨hr, hv5, hm6⟩ := hq
  rw [hr]
  clear hr r
  have hm7 := hm3.go hm6 (by intro i hi; simp only [List.mem_cons, List.not_mem_nil, or_false] at hi ⊢ <;> omega)
  have e8 : u4 66 = nI 0 := (hm6 66 (by decide)).trans e_u1
  show ST G mi_Mo_tamper 12 [(0, .ref 373), (1, .int (nI 2)), (2, .int y), (3, .int z), (4, .int mask)] [.int (nI 0)] u4 0 0 _
  refine S_if_neN d_Mo_tamper_12 rfl (by omega) (fun c => by first | exact absurd c (by omega) | exact c.elim | exact absurd c (by decide) | exact absurd (by assumption) c | exact absurd c (by assumption) | exact absurd c (Int32.not_le.mpr (by assumption))) (fun _ => ?_)
  refine ST.lift (fun _ _ k => T_iconst (v := nI 0) d_Mo_tamper_15 (by decide) k) ?_
  refine S_topi (y := nI 0) (congrArg nI (by omega)) ?_
  exact S_ret d_Mo_tamper_16 rfl (nar_z (by omega)) (by decide) (by decide) (hQ _ hv5 hm7 (e8.trans (congrArg nI (by omega))))
set_option maxRecDepth 100000 in
set_option maxHeartbeats 4000000 in
theorem c_Mo_isWire_2_oth (G : GX) (v : Nat → Int32) (y : Int32) (i : Nat) (b_i : i < 2147483648) (h1_m : ¬ y = nI 1) (h2_m : ¬ y = nI 2) (h3_m : ¬ y = nI 3) (hv : okv v) : CS G mi_Mo_isWire [.ref 373, .int (nI 2), .int y, .int (nI i)] v (fun r v' => r = some (.int (nI 0)) ∧ okv v' ∧ mdf [] v v') := by
  refine CS.of (by decide) (Nat.le_of_ble_eq_true rfl) ?_
  generalize hQe : (fun (r : Option Value) (v' : Nat → Int32) => r = some (.int (nI 0)) ∧ okv v' ∧ mdf [] v v') = Q
  have hQ : ∀ u, okv u → mdf [] v u → Q (some (.int (nI 0))) u := by rw [← hQe]; exact fun u h1 h2  => ⟨rfl, h1, h2⟩
  clear hQe
  have hm : mdf [] v v := mdf.rf
  show ST G mi_Mo_isWire 0 [(0, .ref 373), (1, .int (nI 2)), (2, .int y), (3, .int (nI i))] [] v 0 0 Q
  refine ST.lift (fun _ _ k => T_iload_n d_Mo_isWire_0 rfl k) ?_
  refine S_static (as := [.int (nI 2)]) (rest := []) d_Mo_isWire_1 rfl (jw_Mo_isSession.jo (by decide)) lm_Mo_545 jt_Mo_isSession rfl (Nat.le_of_ble_eq_true rfl) (by decide) (by decide) (c_Mo_isSession G v 2 (by omega)) (fun r v' hq => ?_)
  rw [hq.1, hq.2]
  clear hq r v'
  show ST G mi_Mo_isWire 4 [(0, .ref 373), (1, .int (nI 2)), (2, .int y), (3, .int (nI i))] [.int (nI 1)] v 0 0 _
  refine S_if_eqN d_Mo_isWire_4 rfl (by omega) (fun c => by first | exact absurd c (by omega) | exact c.elim | exact absurd c (by decide) | exact absurd (by assumption) c | exact absurd c (by assumption) | exact absurd c (Int32.not_le.mpr (by assumption))) (fun _ => ?_)
  refine ST.lift (fun _ _ k => T_iload_n d_Mo_isWire_7 rfl k) ?_
  refine S_if_geN d_Mo_isWire_8 rfl (by omega) (fun _ => ?_) (fun c => by first | exact absurd c (by omega) | exact c.elim | exact absurd c (by decide) | exact absurd (by assumption) c | exact absurd c (by assumption) | exact absurd c (Int32.not_le.mpr (by assumption)))
  refine ST.lift (fun _ _ k => T_iload_n d_Mo_isWire_13 rfl k) ?_
  refine ST.lift (fun _ _ k => T_iconst (v := nI 1) d_Mo_isWire_14 (by decide) k) ?_
  refine S_icmp_ne d_Mo_isWire_15 rfl (fun _ => ?_) (fun c => by first | exact absurd c (by omega) | exact c.elim | exact absurd c (by decide) | exact absurd (by assumption) c | exact absurd c (by assumption) | exact absurd c (Int32.not_le.mpr (by assumption)))
  refine ST.lift (fun _ _ k => T_iload_n d_Mo_isWire_39 rfl k) ?_
  refine ST.lift (fun _ _ k => T_iconst (v := nI 2) d_Mo_isWire_40 (by decide) k) ?_
  refine S_icmp_ne d_Mo_isWire_41 rfl (fun _ => ?_) (fun c => by first | exact absurd c (by omega) | exact c.elim | exact absurd c (by decide) | exact absurd (by assumption) c | exact absurd c (by assumption) | exact absurd c (Int32.not_le.mpr (by assumption)))
  refine ST.lift (fun _ _ k => T_iload_n d_Mo_isWire_66 rfl k) ?_
  refine ST.lift (fun _ _ k => T_iconst (v := nI 3) d_Mo_isWire_67 (by decide) k) ?_
  refine S_icmp_ne d_Mo_isWire_68 rfl (fun _ => ?_) (fun c => by first | exact absurd c (by omega) | exact c.elim | exact absurd c (by decide) | exact absurd (by assumption) c | exact absurd c (by assumption) | exact absurd c (Int32.not_le.mpr (by assumption)))
  refine ST.lift (fun _ _ k => T_iconst (v := nI 0) d_Mo_isWire_90 (by decide) k) ?_
  refine S_topi (y := nI 0) (congrArg nI (by omega)) ?_
  exact S_ret d_Mo_isWire_91 rfl (nar_z (by omega)) (by decide) (by decide) (hQ _ hv hm)
set_option maxRecDepth 100000 in
set_option maxHeartbeats 4000000 in
theorem c_Mo_wire_2_oth (G : GX) (v : Nat → Int32) (y : Int32) (i : Nat) (b_i : i < 2147483648) (h1_m : ¬ y = nI 1) (h2_m : ¬ y = nI 2) (h3_m : ¬ y = nI 3) (hv : okv v) : CS G mi_Mo_wire [.ref 373, .int (nI 2), .int y, .int (nI i)] v (fun r v' => r = some (.int (nI 0)) ∧ okv v' ∧ mdf [66] v v' ∧ v' 66 = nI 1) := by
  refine CS.of (by decide) (Nat.le_of_ble_eq_true rfl) ?_
  generalize hQe : (fun (r : Option Value) (v' : Nat → Int32) => r = some (.int (nI 0)) ∧ okv v' ∧ mdf [66] v v' ∧ v' 66 = nI 1) = Q
  have hQ : ∀ u, okv u → mdf [66] v u → u 66 = nI 1 → Q (some (.int (nI 0))) u := by rw [← hQe]; exact fun u h1 h2 f0 => ⟨rfl, h1, h2, f0⟩
  clear hQe
  have hm : mdf [66] v v := mdf.rf
  show ST G mi_Mo_wire 0 [(0, .ref 373), (1, .int (nI 2)), (2, .int y), (3, .int (nI i))] [] v 0 0 Q
  refine ST.lift (fun _ _ k => T_aload_n (v := .ref 373) d_Mo_wire_0 rfl (Or.inr ⟨_, rfl⟩) k) ?_
  refine ST.lift (fun _ _ k => T_iconst (v := nI 0) d_Mo_wire_1 (by decide) k) ?_
  refine S_putfield (v' := va_up v 66 (nI 0)) d_Mo_wire_2 (fp_Mo_316 _) (w373 _) (Nat.le_of_ble_eq_true rfl) ⟨rfl, rfl⟩ (u373_0 _ _) ?_
  have hv2 := hv.off (j := 66) (x := (nI 0)) (by decide)
  have hm3 := hm.go (mdf.up (v := v) (j := 66) (x := (nI 0))) (by intro i hi; simp only [List.mem_cons, List.not_mem_nil, or_false] at hi ⊢ <;> omega)
  have e_u1 : (va_up v 66 (nI 0)) 66 = (nI 0) := by simp [va_up]
  generalize va_up v 66 (nI 0) = u1 at hv2 hm3 e_u1 ⊢
  refine ST.lift (fun _ _ k => T_aload_n (v := .ref 373) d_Mo_wire_5 rfl (Or.inr ⟨_, rfl⟩) k) ?_
  refine ST.lift (fun _ _ k => T_iload_n d_Mo_wire_6 rfl k) ?_
  refine ST.lift (fun _ _ k => T_iload_n d_Mo_wire_7 rfl k) ?_
  refine ST.lift (fun _ _ k => T_iload_n d_Mo_wire_8 rfl k) ?_
  refine S_virtual (as := [.int (nI 2), .int y, .int (nI i)]) (rest := []) (b := 373) d_Mo_wire_9 rfl (jw_Mo_isWire.jo (by decide)) lm_Mo_595 ji_Mo_isWire js_Mo_isWire (w373 _) rfl rfl rfl (Nat.le_of_ble_eq_true rfl) (by decide) (by decide) (c_Mo_isWire_2_oth G u1 y i (by omega) h1_m h2_m h3_m hv2) (fun r u4 hq => ?_)
  obtain ⟨hr, hv5, hm6⟩ := hq
  rw [hr]
  clear hr r
  have hm7 := hm3.go hm6 (by intro i hi; simp only [List.mem_cons, List.not_mem_nil, or_false] at hi ⊢ <;> omega)
  have e8 : u4 66 = nI 0 := (hm6 66 (by decide)).trans e_u1
  show ST G mi_Mo_wire 12 [(0, .ref 373), (1, .int (nI 2)), (2, .int y), (3, .int (nI i))] [.int (nI 0)] u4 0 0 _
  refine S_if_neN d_Mo_wire_12 rfl (by omega) (fun c => by first | exact absurd c (by omega) | exact c.elim | exact absurd c (by decide) | exact absurd (by assumption) c | exact absurd c (by assumption) | exact absurd c (Int32.not_le.mpr (by assumption))) (fun _ => ?_)
  refine ST.lift (fun _ _ k => T_aload_n (v := .ref 373) d_Mo_wire_15 rfl (Or.inr ⟨_, rfl⟩) k) ?_
  refine ST.lift (fun _ _ k => T_iconst (v := nI 1) d_Mo_wire_16 (by decide) k) ?_
  refine S_putfield (v' := va_up u4 66 (nI 1)) d_Mo_wire_17 (fp_Mo_316 _) (w373 _) (Nat.le_of_ble_eq_true rfl) ⟨rfl, rfl⟩ (u373_0 _ _) ?_
  have hv10 := hv5.off (j := 66) (x := (nI 1)) (by decide)
  have hm11 := hm7.go (mdf.up (v := u4) (j := 66) (x := (nI 1))) (by intro i hi; simp only [List.mem_cons, List.not_mem_nil, or_false] at hi ⊢ <;> omega)
  have e_u9 : (va_up u4 66 (nI 1)) 66 = (nI 1) := by simp [va_up]
  generalize va_up u4 66 (nI 1) = u9 at hv10 hm11 e_u9 ⊢
  refine ST.lift (fun _ _ k => T_iconst (v := nI 0) d_Mo_wire_20 (by decide) k) ?_
  refine S_topi (y := nI 0) (congrArg nI (by omega)) ?_
  exact S_ret d_Mo_wire_21 rfl rfl (by decide) (by decide) (hQ _ hv10 hm11 (e_u9.trans (congrArg nI (by omega))))
set_option maxRecDepth 100000 in
set_option maxHeartbeats 4000000 in
theorem c_Mo_tamper_2_oth (G : GX) (v : Nat → Int32) (y : Int32) (i : Nat) (b_i : i < 2147483648) (mask : Int32) (h1_m : ¬ y = nI 1) (h2_m : ¬ y = nI 2) (h3_m : ¬ y = nI 3) (hv : okv v) : CS G mi_Mo_tamper [.ref 373, .int (nI 2), .int y, .int (nI i), .int mask] v (fun r v' => r = some (.int (nI 0)) ∧ okv v' ∧ mdf [66] v v' ∧ v' 66 = nI 0) := by
  refine CS.of (by decide) (Nat.le_of_ble_eq_true rfl) ?_
  generalize hQe : (fun (r : Option Value) (v' : Nat → Int32) => r = some (.int (nI 0)) ∧ okv v' ∧ mdf [66] v v' ∧ v' 66 = nI 0) = Q
  have hQ : ∀ u, okv u → mdf [66] v u → u 66 = nI 0 → Q (some (.int (nI 0))) u := by rw [← hQe]; exact fun u h1 h2 f0 => ⟨rfl, h1, h2, f0⟩
  clear hQe
  have hm : mdf [66] v v := mdf.rf
  show ST G mi_Mo_tamper 0 [(0, .ref 373), (1, .int (nI 2)), (2, .int y), (3, .int (nI i)), (4, .int mask)] [] v 0 0 Q
  refine ST.lift (fun _ _ k => T_aload_n (v := .ref 373) d_Mo_tamper_0 rfl (Or.inr ⟨_, rfl⟩) k) ?_
  refine ST.lift (fun _ _ k => T_iconst (v := nI 0) d_Mo_tamper_1 (by decide) k) ?_
  refine S_putfield (v' := va_up v 66 (nI 0)) d_Mo_tamper_2 (fp_Mo_316 _) (w373 _) (Nat.le_of_ble_eq_true rfl) ⟨rfl, rfl⟩ (u373_0 _ _) ?_
  have hv2 := hv.off (j := 66) (x := (nI 0)) (by decide)
  have hm3 := hm.go (mdf.up (v := v) (j := 66) (x := (nI 0))) (by intro i hi; simp only [List.mem_cons, List.not_mem_nil, or_false] at hi ⊢ <;> omega)
  have e_u1 : (va_up v 66 (nI 0)) 66 = (nI 0) := by simp [va_up]
  generalize va_up v 66 (nI 0) = u1 at hv2 hm3 e_u1 ⊢
  refine ST.lift (fun _ _ k => T_aload_n (v := .ref 373) d_Mo_tamper_5 rfl (Or.inr ⟨_, rfl⟩) k) ?_
  refine ST.lift (fun _ _ k => T_iload_n d_Mo_tamper_6 rfl k) ?_
  refine ST.lift (fun _ _ k => T_iload_n d_Mo_tamper_7 rfl k) ?_
  refine ST.lift (fun _ _ k => T_iload_n d_Mo_tamper_8 rfl k) ?_
  refine S_virtual (as := [.int (nI 2), .int y, .int (nI i)]) (rest := []) (b := 373) d_Mo_tamper_9 rfl (jw_Mo_isWire.jo (by decide)) lm_Mo_595 ji_Mo_isWire js_Mo_isWire (w373 _) rfl rfl rfl (Nat.le_of_ble_eq_true rfl) (by decide) (by decide) (c_Mo_isWire_2_oth G u1 y i (by omega) h1_m h2_m h3_m hv2) (fun r u4 hq => ?_)
  obtain ⟨hr, hv5, hm6⟩ := hq
  rw [hr]
  clear hr r
  have hm7 := hm3.go hm6 (by intro i hi; simp only [List.mem_cons, List.not_mem_nil, or_false] at hi ⊢ <;> omega)
  have e8 : u4 66 = nI 0 := (hm6 66 (by decide)).trans e_u1
  show ST G mi_Mo_tamper 12 [(0, .ref 373), (1, .int (nI 2)), (2, .int y), (3, .int (nI i)), (4, .int mask)] [.int (nI 0)] u4 0 0 _
  refine S_if_neN d_Mo_tamper_12 rfl (by omega) (fun c => by first | exact absurd c (by omega) | exact c.elim | exact absurd c (by decide) | exact absurd (by assumption) c | exact absurd c (by assumption) | exact absurd c (Int32.not_le.mpr (by assumption))) (fun _ => ?_)
  refine ST.lift (fun _ _ k => T_iconst (v := nI 0) d_Mo_tamper_15 (by decide) k) ?_
  refine S_topi (y := nI 0) (congrArg nI (by omega)) ?_
  exact S_ret d_Mo_tamper_16 rfl (nar_z (by omega)) (by decide) (by decide) (hQ _ hv5 hm7 (e8.trans (congrArg nI (by omega))))
set_option maxRecDepth 100000 in
set_option maxHeartbeats 4000000 in
theorem c_Mo_isWire_2_1_not (G : GX) (v : Nat → Int32) (i : Nat) (b_i : i < 2147483648) (e98 : v 98 = nI 0) (hv : okv v) : CS G mi_Mo_isWire [.ref 373, .int (nI 2), .int (nI 1), .int (nI i)] v (fun r v' => r = some (.int (nI 0)) ∧ okv v' ∧ mdf [] v v' ∧ v' 98 = nI 0) := by
  refine CS.of (by decide) (Nat.le_of_ble_eq_true rfl) ?_
  generalize hQe : (fun (r : Option Value) (v' : Nat → Int32) => r = some (.int (nI 0)) ∧ okv v' ∧ mdf [] v v' ∧ v' 98 = nI 0) = Q
  have hQ : ∀ u, okv u → mdf [] v u → u 98 = nI 0 → Q (some (.int (nI 0))) u := by rw [← hQe]; exact fun u h1 h2 f0 => ⟨rfl, h1, h2, f0⟩
  clear hQe
  have hm : mdf [] v v := mdf.rf
  show ST G mi_Mo_isWire 0 [(0, .ref 373), (1, .int (nI 2)), (2, .int (nI 1)), (3, .int (nI i))] [] v 0 0 Q
  refine ST.lift (fun _ _ k => T_iload_n d_Mo_isWire_0 rfl k) ?_
  refine S_static (as := [.int (nI 2)]) (rest := []) d_Mo_isWire_1 rfl (jw_Mo_isSession.jo (by decide)) lm_Mo_545 jt_Mo_isSession rfl (Nat.le_of_ble_eq_true rfl) (by decide) (by decide) (c_Mo_isSession G v 2 (by omega)) (fun r v' hq => ?_)
  rw [hq.1, hq.2]
  clear hq r v'
  show ST G mi_Mo_isWire 4 [(0, .ref 373), (1, .int (nI 2)), (2, .int (nI 1)), (3, .int (nI i))] [.int (nI 1)] v 0 0 _
  refine S_if_eqN d_Mo_isWire_4 rfl (by omega) (fun c => by first | exact absurd c (by omega) | exact c.elim | exact absurd c (by decide) | exact absurd (by assumption) c | exact absurd c (by assumption) | exact absurd c (Int32.not_le.mpr (by assumption))) (fun _ => ?_)
  refine ST.lift (fun _ _ k => T_iload_n d_Mo_isWire_7 rfl k) ?_
  refine S_if_geN d_Mo_isWire_8 rfl (by omega) (fun _ => ?_) (fun c => by first | exact absurd c (by omega) | exact c.elim | exact absurd c (by decide) | exact absurd (by assumption) c | exact absurd c (by assumption) | exact absurd c (Int32.not_le.mpr (by assumption)))
  refine ST.lift (fun _ _ k => T_iload_n d_Mo_isWire_13 rfl k) ?_
  refine ST.lift (fun _ _ k => T_iconst (v := nI 1) d_Mo_isWire_14 (by decide) k) ?_
  refine S_icmp_neN d_Mo_isWire_15 rfl (by omega) (by omega) (fun c => by first | exact absurd c (by omega) | exact c.elim | exact absurd c (by decide) | exact absurd (by assumption) c | exact absurd c (by assumption) | exact absurd c (Int32.not_le.mpr (by assumption))) (fun _ => ?_)
  refine ST.lift (fun _ _ k => T_aload_n (v := .ref 373) d_Mo_isWire_18 rfl (Or.inr ⟨_, rfl⟩) k) ?_
  refine S_getfield d_Mo_isWire_19 fg_Mo_392 (w373 _) rfl ?_
  refine ST.lift (fun _ _ k => T_iload_n d_Mo_isWire_22 rfl k) ?_
  refine S_xload (t := 3) (k := 2) (Or.inr ⟨rfl, d_Mo_isWire_23⟩) rfl (w424 _) (by decide) (by decide) ?_
  refine S_topi (y := v 98) rfl ?_
  refine S_topi (y := nI 0) (e98) ?_
  refine S_if_eqN d_Mo_isWire_24 rfl (by omega) (fun _ => ?_) (fun c => by first | exact absurd c (by omega) | exact c.elim | exact absurd c (by decide) | exact absurd (by assumption) c | exact absurd c (by assumption) | exact absurd c (Int32.not_le.mpr (by assumption)))
  refine ST.lift (fun _ _ k => T_iconst (v := nI 0) d_Mo_isWire_37 (by decide) k) ?_
  refine S_topi (y := nI 0) (congrArg nI (by omega)) ?_
  exact S_ret d_Mo_isWire_38 rfl (nar_z (by omega)) (by decide) (by decide) (hQ _ hv hm (e98.trans (congrArg nI (by omega))))
set_option maxRecDepth 100000 in
set_option maxHeartbeats 4000000 in
theorem c_Mo_wire_2_1_not (G : GX) (v : Nat → Int32) (i : Nat) (b_i : i < 2147483648) (e98 : v 98 = nI 0) (hv : okv v) : CS G mi_Mo_wire [.ref 373, .int (nI 2), .int (nI 1), .int (nI i)] v (fun r v' => r = some (.int (nI 0)) ∧ okv v' ∧ mdf [66] v v' ∧ v' 66 = nI 1) := by
  refine CS.of (by decide) (Nat.le_of_ble_eq_true rfl) ?_
  generalize hQe : (fun (r : Option Value) (v' : Nat → Int32) => r = some (.int (nI 0)) ∧ okv v' ∧ mdf [66] v v' ∧ v' 66 = nI 1) = Q
  have hQ : ∀ u, okv u → mdf [66] v u → u 66 = nI 1 → Q (some (.int (nI 0))) u := by rw [← hQe]; exact fun u h1 h2 f0 => ⟨rfl, h1, h2, f0⟩
  clear hQe
  have hm : mdf [66] v v := mdf.rf
  show ST G mi_Mo_wire 0 [(0, .ref 373), (1, .int (nI 2)), (2, .int (nI 1)), (3, .int (nI i))] [] v 0 0 Q
  refine ST.lift (fun _ _ k => T_aload_n (v := .ref 373) d_Mo_wire_0 rfl (Or.inr ⟨_, rfl⟩) k) ?_
  refine ST.lift (fun _ _ k => T_iconst (v := nI 0) d_Mo_wire_1 (by decide) k) ?_
  refine S_putfield (v' := va_up v 66 (nI 0)) d_Mo_wire_2 (fp_Mo_316 _) (w373 _) (Nat.le_of_ble_eq_true rfl) ⟨rfl, rfl⟩ (u373_0 _ _) ?_
  have hv2 := hv.off (j := 66) (x := (nI 0)) (by decide)
  have hm3 := hm.go (mdf.up (v := v) (j := 66) (x := (nI 0))) (by intro i hi; simp only [List.mem_cons, List.not_mem_nil, or_false] at hi ⊢ <;> omega)
  have e_u1 : (va_up v 66 (nI 0)) 66 = (nI 0) := by simp [va_up]
  have e4 : (va_up v 66 (nI 0)) 98 = nI 0 := by simp only [va_up]; exact e98
  generalize va_up v 66 (nI 0) = u1 at hv2 hm3 e_u1 e4 ⊢
  refine ST.lift (fun _ _ k => T_aload_n (v := .ref 373) d_Mo_wire_5 rfl (Or.inr ⟨_, rfl⟩) k) ?_
  refine ST.lift (fun _ _ k => T_iload_n d_Mo_wire_6 rfl k) ?_
  refine ST.lift (fun _ _ k => T_iload_n d_Mo_wire_7 rfl k) ?_
  refine ST.lift (fun _ _ k => T_iload_n d_Mo_wire_8 rfl k) ?_
  refine S_virtual (as := [.int (nI 2), .int (nI 1), .int (nI i)]) (rest := []) (b := 373) d_Mo_wire_9 rfl (jw_Mo_isWire.jo (by decide)) lm_Mo_595 ji_Mo_isWire js_Mo_isWire (w373 _) rfl rfl rfl (Nat.le_of_ble_eq_true rfl) (by decide) (by decide) (c_Mo_isWire_2_1_not G u1 i (by omega) e4 hv2) (fun r u5 hq => ?_)
  obtain ⟨hr, hv6, hm7, fe0_u5⟩ := hq
  rw [hr]
  clear hr r
  have hm8 := hm3.go hm7 (by intro i hi; simp only [List.mem_cons, List.not_mem_nil, or_false] at hi ⊢ <;> omega)
  have e9 : u5 98 = nI 0 := (hm7 98 (by decide)).trans e4
  have e10 : u5 66 = nI 0 := (hm7 66 (by decide)).trans e_u1
  show ST G mi_Mo_wire 12 [(0, .ref 373), (1, .int (nI 2)), (2, .int (nI 1)), (3, .int (nI i))] [.int (nI 0)] u5 0 0 _
  refine S_if_neN d_Mo_wire_12 rfl (by omega) (fun c => by first | exact absurd c (by omega) | exact c.elim | exact absurd c (by decide) | exact absurd (by assumption) c | exact absurd c (by assumption) | exact absurd c (Int32.not_le.mpr (by assumption))) (fun _ => ?_)
  refine ST.lift (fun _ _ k => T_aload_n (v := .ref 373) d_Mo_wire_15 rfl (Or.inr ⟨_, rfl⟩) k) ?_
  refine ST.lift (fun _ _ k => T_iconst (v := nI 1) d_Mo_wire_16 (by decide) k) ?_
  refine S_putfield (v' := va_up u5 66 (nI 1)) d_Mo_wire_17 (fp_Mo_316 _) (w373 _) (Nat.le_of_ble_eq_true rfl) ⟨rfl, rfl⟩ (u373_0 _ _) ?_
  have hv12 := hv6.off (j := 66) (x := (nI 1)) (by decide)
  have hm13 := hm8.go (mdf.up (v := u5) (j := 66) (x := (nI 1))) (by intro i hi; simp only [List.mem_cons, List.not_mem_nil, or_false] at hi ⊢ <;> omega)
  have e_u11 : (va_up u5 66 (nI 1)) 66 = (nI 1) := by simp [va_up]
  have e14 : (va_up u5 66 (nI 1)) 98 = nI 0 := by simp only [va_up]; exact fe0_u5
  generalize va_up u5 66 (nI 1) = u11 at hv12 hm13 e_u11 e14 ⊢
  refine ST.lift (fun _ _ k => T_iconst (v := nI 0) d_Mo_wire_20 (by decide) k) ?_
  refine S_topi (y := nI 0) (congrArg nI (by omega)) ?_
  exact S_ret d_Mo_wire_21 rfl rfl (by decide) (by decide) (hQ _ hv12 hm13 (e_u11.trans (congrArg nI (by omega))))
set_option maxRecDepth 100000 in
set_option maxHeartbeats 4000000 in
theorem c_Mo_tamper_2_1_not (G : GX) (v : Nat → Int32) (i : Nat) (b_i : i < 2147483648) (mask : Int32) (e98 : v 98 = nI 0) (hv : okv v) : CS G mi_Mo_tamper [.ref 373, .int (nI 2), .int (nI 1), .int (nI i), .int mask] v (fun r v' => r = some (.int (nI 0)) ∧ okv v' ∧ mdf [66] v v' ∧ v' 66 = nI 0) := by
  refine CS.of (by decide) (Nat.le_of_ble_eq_true rfl) ?_
  generalize hQe : (fun (r : Option Value) (v' : Nat → Int32) => r = some (.int (nI 0)) ∧ okv v' ∧ mdf [66] v v' ∧ v' 66 = nI 0) = Q
  have hQ : ∀ u, okv u → mdf [66] v u → u 66 = nI 0 → Q (some (.int (nI 0))) u := by rw [← hQe]; exact fun u h1 h2 f0 => ⟨rfl, h1, h2, f0⟩
  clear hQe
  have hm : mdf [66] v v := mdf.rf
  show ST G mi_Mo_tamper 0 [(0, .ref 373), (1, .int (nI 2)), (2, .int (nI 1)), (3, .int (nI i)), (4, .int mask)] [] v 0 0 Q
  refine ST.lift (fun _ _ k => T_aload_n (v := .ref 373) d_Mo_tamper_0 rfl (Or.inr ⟨_, rfl⟩) k) ?_
  refine ST.lift (fun _ _ k => T_iconst (v := nI 0) d_Mo_tamper_1 (by decide) k) ?_
  refine S_putfield (v' := va_up v 66 (nI 0)) d_Mo_tamper_2 (fp_Mo_316 _) (w373 _) (Nat.le_of_ble_eq_true rfl) ⟨rfl, rfl⟩ (u373_0 _ _) ?_
  have hv2 := hv.off (j := 66) (x := (nI 0)) (by decide)
  have hm3 := hm.go (mdf.up (v := v) (j := 66) (x := (nI 0))) (by intro i hi; simp only [List.mem_cons, List.not_mem_nil, or_false] at hi ⊢ <;> omega)
  have e_u1 : (va_up v 66 (nI 0)) 66 = (nI 0) := by simp [va_up]
  have e4 : (va_up v 66 (nI 0)) 98 = nI 0 := by simp only [va_up]; exact e98
  generalize va_up v 66 (nI 0) = u1 at hv2 hm3 e_u1 e4 ⊢
  refine ST.lift (fun _ _ k => T_aload_n (v := .ref 373) d_Mo_tamper_5 rfl (Or.inr ⟨_, rfl⟩) k) ?_
  refine ST.lift (fun _ _ k => T_iload_n d_Mo_tamper_6 rfl k) ?_
  refine ST.lift (fun _ _ k => T_iload_n d_Mo_tamper_7 rfl k) ?_
  refine ST.lift (fun _ _ k => T_iload_n d_Mo_tamper_8 rfl k) ?_
  refine S_virtual (as := [.int (nI 2), .int (nI 1), .int (nI i)]) (rest := []) (b := 373) d_Mo_tamper_9 rfl (jw_Mo_isWire.jo (by decide)) lm_Mo_595 ji_Mo_isWire js_Mo_isWire (w373 _) rfl rfl rfl (Nat.le_of_ble_eq_true rfl) (by decide) (by decide) (c_Mo_isWire_2_1_not G u1 i (by omega) e4 hv2) (fun r u5 hq => ?_)
  obtain ⟨hr, hv6, hm7, fe0_u5⟩ := hq
  rw [hr]
  clear hr r
  have hm8 := hm3.go hm7 (by intro i hi; simp only [List.mem_cons, List.not_mem_nil, or_false] at hi ⊢ <;> omega)
  have e9 : u5 98 = nI 0 := (hm7 98 (by decide)).trans e4
  have e10 : u5 66 = nI 0 := (hm7 66 (by decide)).trans e_u1
  show ST G mi_Mo_tamper 12 [(0, .ref 373), (1, .int (nI 2)), (2, .int (nI 1)), (3, .int (nI i)), (4, .int mask)] [.int (nI 0)] u5 0 0 _
  refine S_if_neN d_Mo_tamper_12 rfl (by omega) (fun c => by first | exact absurd c (by omega) | exact c.elim | exact absurd c (by decide) | exact absurd (by assumption) c | exact absurd c (by assumption) | exact absurd c (Int32.not_le.mpr (by assumption))) (fun _ => ?_)
  refine ST.lift (fun _ _ k => T_iconst (v := nI 0) d_Mo_tamper_15 (by decide) k) ?_
  refine S_topi (y := nI 0) (congrArg nI (by omega)) ?_
  exact S_ret d_Mo_tamper_16 rfl (nar_z (by omega)) (by decide) (by decide) (hQ _ hv6 hm8 (e10.trans (congrArg nI (by omega))))
set_option maxRecDepth 100000 in
set_option maxHeartbeats 4000000 in
theorem c_Mo_isWire_2_2_not (G : GX) (v : Nat → Int32) (i : Nat) (b_i : i < 2147483648) (e102 : v 102 = nI 0) (hv : okv v) : CS G mi_Mo_isWire [.ref 373, .int (nI 2), .int (nI 2), .int (nI i)] v (fun r v' => r = some (.int (nI 0)) ∧ okv v' ∧ mdf [] v v' ∧ v' 102 = nI 0) := by
  refine CS.of (by decide) (Nat.le_of_ble_eq_true rfl) ?_
  generalize hQe : (fun (r : Option Value) (v' : Nat → Int32) => r = some (.int (nI 0)) ∧ okv v' ∧ mdf [] v v' ∧ v' 102 = nI 0) = Q
  have hQ : ∀ u, okv u → mdf [] v u → u 102 = nI 0 → Q (some (.int (nI 0))) u := by rw [← hQe]; exact fun u h1 h2 f0 => ⟨rfl, h1, h2, f0⟩
  clear hQe
  have hm : mdf [] v v := mdf.rf
  show ST G mi_Mo_isWire 0 [(0, .ref 373), (1, .int (nI 2)), (2, .int (nI 2)), (3, .int (nI i))] [] v 0 0 Q
  refine ST.lift (fun _ _ k => T_iload_n d_Mo_isWire_0 rfl k) ?_
  refine S_static (as := [.int (nI 2)]) (rest := []) d_Mo_isWire_1 rfl (jw_Mo_isSession.jo (by decide)) lm_Mo_545 jt_Mo_isSession rfl (Nat.le_of_ble_eq_true rfl) (by decide) (by decide) (c_Mo_isSession G v 2 (by omega)) (fun r v' hq => ?_)
  rw [hq.1, hq.2]
  clear hq r v'
  show ST G mi_Mo_isWire 4 [(0, .ref 373), (1, .int (nI 2)), (2, .int (nI 2)), (3, .int (nI i))] [.int (nI 1)] v 0 0 _
  refine S_if_eqN d_Mo_isWire_4 rfl (by omega) (fun c => by first | exact absurd c (by omega) | exact c.elim | exact absurd c (by decide) | exact absurd (by assumption) c | exact absurd c (by assumption) | exact absurd c (Int32.not_le.mpr (by assumption))) (fun _ => ?_)
  refine ST.lift (fun _ _ k => T_iload_n d_Mo_isWire_7 rfl k) ?_
  refine S_if_geN d_Mo_isWire_8 rfl (by omega) (fun _ => ?_) (fun c => by first | exact absurd c (by omega) | exact c.elim | exact absurd c (by decide) | exact absurd (by assumption) c | exact absurd c (by assumption) | exact absurd c (Int32.not_le.mpr (by assumption)))
  refine ST.lift (fun _ _ k => T_iload_n d_Mo_isWire_13 rfl k) ?_
  refine ST.lift (fun _ _ k => T_iconst (v := nI 1) d_Mo_isWire_14 (by decide) k) ?_
  refine S_icmp_neN d_Mo_isWire_15 rfl (by omega) (by omega) (fun _ => ?_) (fun c => by first | exact absurd c (by omega) | exact c.elim | exact absurd c (by decide) | exact absurd (by assumption) c | exact absurd c (by assumption) | exact absurd c (Int32.not_le.mpr (by assumption)))
  refine ST.lift (fun _ _ k => T_iload_n d_Mo_isWire_39 rfl k) ?_
  refine ST.lift (fun _ _ k => T_iconst (v := nI 2) d_Mo_isWire_40 (by decide) k) ?_
  refine S_icmp_neN d_Mo_isWire_41 rfl (by omega) (by omega) (fun c => by first | exact absurd c (by omega) | exact c.elim | exact absurd c (by decide) | exact absurd (by assumption) c | exact absurd c (by assumption) | exact absurd c (Int32.not_le.mpr (by assumption))) (fun _ => ?_)
  refine ST.lift (fun _ _ k => T_aload_n (v := .ref 373) d_Mo_isWire_44 rfl (Or.inr ⟨_, rfl⟩) k) ?_
  refine S_getfield d_Mo_isWire_45 fg_Mo_395 (w373 _) rfl ?_
  refine ST.lift (fun _ _ k => T_iload_n d_Mo_isWire_48 rfl k) ?_
  refine S_xload (t := 3) (k := 2) (Or.inr ⟨rfl, d_Mo_isWire_49⟩) rfl (w425 _) (by decide) (by decide) ?_
  refine S_topi (y := v 102) rfl ?_
  refine S_topi (y := nI 0) (e102) ?_
  refine S_if_eqN d_Mo_isWire_50 rfl (by omega) (fun _ => ?_) (fun c => by first | exact absurd c (by omega) | exact c.elim | exact absurd c (by decide) | exact absurd (by assumption) c | exact absurd c (by assumption) | exact absurd c (Int32.not_le.mpr (by assumption)))
  refine ST.lift (fun _ _ k => T_iconst (v := nI 0) d_Mo_isWire_64 (by decide) k) ?_
  refine S_topi (y := nI 0) (congrArg nI (by omega)) ?_
  exact S_ret d_Mo_isWire_65 rfl (nar_z (by omega)) (by decide) (by decide) (hQ _ hv hm (e102.trans (congrArg nI (by omega))))
set_option maxRecDepth 100000 in
set_option maxHeartbeats 4000000 in
theorem c_Mo_wire_2_2_not (G : GX) (v : Nat → Int32) (i : Nat) (b_i : i < 2147483648) (e102 : v 102 = nI 0) (hv : okv v) : CS G mi_Mo_wire [.ref 373, .int (nI 2), .int (nI 2), .int (nI i)] v (fun r v' => r = some (.int (nI 0)) ∧ okv v' ∧ mdf [66] v v' ∧ v' 66 = nI 1) := by
  refine CS.of (by decide) (Nat.le_of_ble_eq_true rfl) ?_
  generalize hQe : (fun (r : Option Value) (v' : Nat → Int32) => r = some (.int (nI 0)) ∧ okv v' ∧ mdf [66] v v' ∧ v' 66 = nI 1) = Q
  have hQ : ∀ u, okv u → mdf [66] v u → u 66 = nI 1 → Q (some (.int (nI 0))) u := by rw [← hQe]; exact fun u h1 h2 f0 => ⟨rfl, h1, h2, f0⟩
  clear hQe
  have hm : mdf [66] v v := mdf.rf
  show ST G mi_Mo_wire 0 [(0, .ref 373), (1, .int (nI 2)), (2, .int (nI 2)), (3, .int (nI i))] [] v 0 0 Q
  refine ST.lift (fun _ _ k => T_aload_n (v := .ref 373) d_Mo_wire_0 rfl (Or.inr ⟨_, rfl⟩) k) ?_
  refine ST.lift (fun _ _ k => T_iconst (v := nI 0) d_Mo_wire_1 (by decide) k) ?_
  refine S_putfield (v' := va_up v 66 (nI 0)) d_Mo_wire_2 (fp_Mo_316 _) (w373 _) (Nat.le_of_ble_eq_true rfl) ⟨rfl, rfl⟩ (u373_0 _ _) ?_
  have hv2 := hv.off (j := 66) (x := (nI 0)) (by decide)
  have hm3 := hm.go (mdf.up (v := v) (j := 66) (x := (nI 0))) (by intro i hi; simp only [List.mem_cons, List.not_mem_nil, or_false] at hi ⊢ <;> omega)
  have e_u1 : (va_up v 66 (nI 0)) 66 = (nI 0) := by simp [va_up]
  have e4 : (va_up v 66 (nI 0)) 102 = nI 0 := by simp only [va_up]; exact e102
  generalize va_up v 66 (nI 0) = u1 at hv2 hm3 e_u1 e4 ⊢
  refine ST.lift (fun _ _ k => T_aload_n (v := .ref 373) d_Mo_wire_5 rfl (Or.inr ⟨_, rfl⟩) k) ?_
  refine ST.lift (fun _ _ k => T_iload_n d_Mo_wire_6 rfl k) ?_
  refine ST.lift (fun _ _ k => T_iload_n d_Mo_wire_7 rfl k) ?_
  refine ST.lift (fun _ _ k => T_iload_n d_Mo_wire_8 rfl k) ?_
  refine S_virtual (as := [.int (nI 2), .int (nI 2), .int (nI i)]) (rest := []) (b := 373) d_Mo_wire_9 rfl (jw_Mo_isWire.jo (by decide)) lm_Mo_595 ji_Mo_isWire js_Mo_isWire (w373 _) rfl rfl rfl (Nat.le_of_ble_eq_true rfl) (by decide) (by decide) (c_Mo_isWire_2_2_not G u1 i (by omega) e4 hv2) (fun r u5 hq => ?_)
  obtain ⟨hr, hv6, hm7, fe0_u5⟩ := hq
  rw [hr]
  clear hr r
  have hm8 := hm3.go hm7 (by intro i hi; simp only [List.mem_cons, List.not_mem_nil, or_false] at hi ⊢ <;> omega)
  have e9 : u5 102 = nI 0 := (hm7 102 (by decide)).trans e4
  have e10 : u5 66 = nI 0 := (hm7 66 (by decide)).trans e_u1
  show ST G mi_Mo_wire 12 [(0, .ref 373), (1, .int (nI 2)), (2, .int (nI 2)), (3, .int (nI i))] [.int (nI 0)] u5 0 0 _
  refine S_if_neN d_Mo_wire_12 rfl (by omega) (fun c => by first | exact absurd c (by omega) | exact c.elim | exact absurd c (by decide) | exact absurd (by assumption) c | exact absurd c (by assumption) | exact absurd c (Int32.not_le.mpr (by assumption))) (fun _ => ?_)
  refine ST.lift (fun _ _ k => T_aload_n (v := .ref 373) d_Mo_wire_15 rfl (Or.inr ⟨_, rfl⟩) k) ?_
  refine ST.lift (fun _ _ k => T_iconst (v := nI 1) d_Mo_wire_16 (by decide) k) ?_
  refine S_putfield (v' := va_up u5 66 (nI 1)) d_Mo_wire_17 (fp_Mo_316 _) (w373 _) (Nat.le_of_ble_eq_true rfl) ⟨rfl, rfl⟩ (u373_0 _ _) ?_
  have hv12 := hv6.off (j := 66) (x := (nI 1)) (by decide)
  have hm13 := hm8.go (mdf.up (v := u5) (j := 66) (x := (nI 1))) (by intro i hi; simp only [List.mem_cons, List.not_mem_nil, or_false] at hi ⊢ <;> omega)
  have e_u11 : (va_up u5 66 (nI 1)) 66 = (nI 1) := by simp [va_up]
  have e14 : (va_up u5 66 (nI 1)) 102 = nI 0 := by simp only [va_up]; exact fe0_u5
  generalize va_up u5 66 (nI 1) = u11 at hv12 hm13 e_u11 e14 ⊢
  refine ST.lift (fun _ _ k => T_iconst (v := nI 0) d_Mo_wire_20 (by decide) k) ?_
  refine S_topi (y := nI 0) (congrArg nI (by omega)) ?_
  exact S_ret d_Mo_wire_21 rfl rfl (by decide) (by decide) (hQ _ hv12 hm13 (e_u11.trans (congrArg nI (by omega))))
set_option maxRecDepth 100000 in
set_option maxHeartbeats 4000000 in
theorem c_Mo_tamper_2_2_not (G : GX) (v : Nat → Int32) (i : Nat) (b_i : i < 2147483648) (mask : Int32) (e102 : v 102 = nI 0) (hv : okv v) : CS G mi_Mo_tamper [.ref 373, .int (nI 2), .int (nI 2), .int (nI i), .int mask] v (fun r v' => r = some (.int (nI 0)) ∧ okv v' ∧ mdf [66] v v' ∧ v' 66 = nI 0) := by
  refine CS.of (by decide) (Nat.le_of_ble_eq_true rfl) ?_
  generalize hQe : (fun (r : Option Value) (v' : Nat → Int32) => r = some (.int (nI 0)) ∧ okv v' ∧ mdf [66] v v' ∧ v' 66 = nI 0) = Q
  have hQ : ∀ u, okv u → mdf [66] v u → u 66 = nI 0 → Q (some (.int (nI 0))) u := by rw [← hQe]; exact fun u h1 h2 f0 => ⟨rfl, h1, h2, f0⟩
  clear hQe
  have hm : mdf [66] v v := mdf.rf
  show ST G mi_Mo_tamper 0 [(0, .ref 373), (1, .int (nI 2)), (2, .int (nI 2)), (3, .int (nI i)), (4, .int mask)] [] v 0 0 Q
  refine ST.lift (fun _ _ k => T_aload_n (v := .ref 373) d_Mo_tamper_0 rfl (Or.inr ⟨_, rfl⟩) k) ?_
  refine ST.lift (fun _ _ k => T_iconst (v := nI 0) d_Mo_tamper_1 (by decide) k) ?_
  refine S_putfield (v' := va_up v 66 (nI 0)) d_Mo_tamper_2 (fp_Mo_316 _) (w373 _) (Nat.le_of_ble_eq_true rfl) ⟨rfl, rfl⟩ (u373_0 _ _) ?_
  have hv2 := hv.off (j := 66) (x := (nI 0)) (by decide)
  have hm3 := hm.go (mdf.up (v := v) (j := 66) (x := (nI 0))) (by intro i hi; simp only [List.mem_cons, List.not_mem_nil, or_false] at hi ⊢ <;> omega)
  have e_u1 : (va_up v 66 (nI 0)) 66 = (nI 0) := by simp [va_up]
  have e4 : (va_up v 66 (nI 0)) 102 = nI 0 := by simp only [va_up]; exact e102
  generalize va_up v 66 (nI 0) = u1 at hv2 hm3 e_u1 e4 ⊢
  refine ST.lift (fun _ _ k => T_aload_n (v := .ref 373) d_Mo_tamper_5 rfl (Or.inr ⟨_, rfl⟩) k) ?_
  refine ST.lift (fun _ _ k => T_iload_n d_Mo_tamper_6 rfl k) ?_
  refine ST.lift (fun _ _ k => T_iload_n d_Mo_tamper_7 rfl k) ?_
  refine ST.lift (fun _ _ k => T_iload_n d_Mo_tamper_8 rfl k) ?_
  refine S_virtual (as := [.int (nI 2), .int (nI 2), .int (nI i)]) (rest := []) (b := 373) d_Mo_tamper_9 rfl (jw_Mo_isWire.jo (by decide)) lm_Mo_595 ji_Mo_isWire js_Mo_isWire (w373 _) rfl rfl rfl (Nat.le_of_ble_eq_true rfl) (by decide) (by decide) (c_Mo_isWire_2_2_not G u1 i (by omega) e4 hv2) (fun r u5 hq => ?_)
  obtain ⟨hr, hv6, hm7, fe0_u5⟩ := hq
  rw [hr]
  clear hr r
  have hm8 := hm3.go hm7 (by intro i hi; simp only [List.mem_cons, List.not_mem_nil, or_false] at hi ⊢ <;> omega)
  have e9 : u5 102 = nI 0 := (hm7 102 (by decide)).trans e4
  have e10 : u5 66 = nI 0 := (hm7 66 (by decide)).trans e_u1
  show ST G mi_Mo_tamper 12 [(0, .ref 373), (1, .int (nI 2)), (2, .int (nI 2)), (3, .int (nI i)), (4, .int mask)] [.int (nI 0)] u5 0 0 _
  refine S_if_neN d_Mo_tamper_12 rfl (by omega) (fun c => by first | exact absurd c (by omega) | exact c.elim | exact absurd c (by decide) | exact absurd (by assumption) c | exact absurd c (by assumption) | exact absurd c (Int32.not_le.mpr (by assumption))) (fun _ => ?_)
  refine ST.lift (fun _ _ k => T_iconst (v := nI 0) d_Mo_tamper_15 (by decide) k) ?_
  refine S_topi (y := nI 0) (congrArg nI (by omega)) ?_
  exact S_ret d_Mo_tamper_16 rfl (nar_z (by omega)) (by decide) (by decide) (hQ _ hv6 hm8 (e10.trans (congrArg nI (by omega))))
set_option maxRecDepth 100000 in
set_option maxHeartbeats 4000000 in
theorem c_Mo_isWire_2_3_not (G : GX) (v : Nat → Int32) (i : Nat) (b_i : i < 2147483648) (e106 : v 106 = nI 0) (hv : okv v) : CS G mi_Mo_isWire [.ref 373, .int (nI 2), .int (nI 3), .int (nI i)] v (fun r v' => r = some (.int (nI 0)) ∧ okv v' ∧ mdf [] v v' ∧ v' 106 = nI 0) := by
  refine CS.of (by decide) (Nat.le_of_ble_eq_true rfl) ?_
  generalize hQe : (fun (r : Option Value) (v' : Nat → Int32) => r = some (.int (nI 0)) ∧ okv v' ∧ mdf [] v v' ∧ v' 106 = nI 0) = Q
  have hQ : ∀ u, okv u → mdf [] v u → u 106 = nI 0 → Q (some (.int (nI 0))) u := by rw [← hQe]; exact fun u h1 h2 f0 => ⟨rfl, h1, h2, f0⟩
  clear hQe
  have hm : mdf [] v v := mdf.rf
  show ST G mi_Mo_isWire 0 [(0, .ref 373), (1, .int (nI 2)), (2, .int (nI 3)), (3, .int (nI i))] [] v 0 0 Q
  refine ST.lift (fun _ _ k => T_iload_n d_Mo_isWire_0 rfl k) ?_
  refine S_static (as := [.int (nI 2)]) (rest := []) d_Mo_isWire_1 rfl (jw_Mo_isSession.jo (by decide)) lm_Mo_545 jt_Mo_isSession rfl (Nat.le_of_ble_eq_true rfl) (by decide) (by decide) (c_Mo_isSession G v 2 (by omega)) (fun r v' hq => ?_)
  rw [hq.1, hq.2]
  clear hq r v'
  show ST G mi_Mo_isWire 4 [(0, .ref 373), (1, .int (nI 2)), (2, .int (nI 3)), (3, .int (nI i))] [.int (nI 1)] v 0 0 _
  refine S_if_eqN d_Mo_isWire_4 rfl (by omega) (fun c => by first | exact absurd c (by omega) | exact c.elim | exact absurd c (by decide) | exact absurd (by assumption) c | exact absurd c (by assumption) | exact absurd c (Int32.not_le.mpr (by assumption))) (fun _ => ?_)
  refine ST.lift (fun _ _ k => T_iload_n d_Mo_isWire_7 rfl k) ?_
  refine S_if_geN d_Mo_isWire_8 rfl (by omega) (fun _ => ?_) (fun c => by first | exact absurd c (by omega) | exact c.elim | exact absurd c (by decide) | exact absurd (by assumption) c | exact absurd c (by assumption) | exact absurd c (Int32.not_le.mpr (by assumption)))
  refine ST.lift (fun _ _ k => T_iload_n d_Mo_isWire_13 rfl k) ?_
  refine ST.lift (fun _ _ k => T_iconst (v := nI 1) d_Mo_isWire_14 (by decide) k) ?_
  refine S_icmp_neN d_Mo_isWire_15 rfl (by omega) (by omega) (fun _ => ?_) (fun c => by first | exact absurd c (by omega) | exact c.elim | exact absurd c (by decide) | exact absurd (by assumption) c | exact absurd c (by assumption) | exact absurd c (Int32.not_le.mpr (by assumption)))
  refine ST.lift (fun _ _ k => T_iload_n d_Mo_isWire_39 rfl k) ?_
  refine ST.lift (fun _ _ k => T_iconst (v := nI 2) d_Mo_isWire_40 (by decide) k) ?_
  refine S_icmp_neN d_Mo_isWire_41 rfl (by omega) (by omega) (fun _ => ?_) (fun c => by first | exact absurd c (by omega) | exact c.elim | exact absurd c (by decide) | exact absurd (by assumption) c | exact absurd c (by assumption) | exact absurd c (Int32.not_le.mpr (by assumption)))
  refine ST.lift (fun _ _ k => T_iload_n d_Mo_isWire_66 rfl k) ?_
  refine ST.lift (fun _ _ k => T_iconst (v := nI 3) d_Mo_isWire_67 (by decide) k) ?_
  refine S_icmp_neN d_Mo_isWire_68 rfl (by omega) (by omega) (fun c => by first | exact absurd c (by omega) | exact c.elim | exact absurd c (by decide) | exact absurd (by assumption) c | exact absurd c (by assumption) | exact absurd c (Int32.not_le.mpr (by assumption))) (fun _ => ?_)
  refine ST.lift (fun _ _ k => T_aload_n (v := .ref 373) d_Mo_isWire_71 rfl (Or.inr ⟨_, rfl⟩) k) ?_
  refine S_getfield d_Mo_isWire_72 fg_Mo_398 (w373 _) rfl ?_
  refine ST.lift (fun _ _ k => T_iload_n d_Mo_isWire_75 rfl k) ?_
  refine S_xload (t := 3) (k := 2) (Or.inr ⟨rfl, d_Mo_isWire_76⟩) rfl (w426 _) (by decide) (by decide) ?_
  refine S_topi (y := v 106) rfl ?_
  refine S_topi (y := nI 0) (e106) ?_
  refine S_if_eqN d_Mo_isWire_77 rfl (by omega) (fun _ => ?_) (fun c => by first | exact absurd c (by omega) | exact c.elim | exact absurd c (by decide) | exact absurd (by assumption) c | exact absurd c (by assumption) | exact absurd c (Int32.not_le.mpr (by assumption)))
  refine ST.lift (fun _ _ k => T_iconst (v := nI 0) d_Mo_isWire_90 (by decide) k) ?_
  refine S_topi (y := nI 0) (congrArg nI (by omega)) ?_
  exact S_ret d_Mo_isWire_91 rfl (nar_z (by omega)) (by decide) (by decide) (hQ _ hv hm (e106.trans (congrArg nI (by omega))))
set_option maxRecDepth 100000 in
set_option maxHeartbeats 4000000 in
theorem c_Mo_wire_2_3_not (G : GX) (v : Nat → Int32) (i : Nat) (b_i : i < 2147483648) (e106 : v 106 = nI 0) (hv : okv v) : CS G mi_Mo_wire [.ref 373, .int (nI 2), .int (nI 3), .int (nI i)] v (fun r v' => r = some (.int (nI 0)) ∧ okv v' ∧ mdf [66] v v' ∧ v' 66 = nI 1) := by
  refine CS.of (by decide) (Nat.le_of_ble_eq_true rfl) ?_
  generalize hQe : (fun (r : Option Value) (v' : Nat → Int32) => r = some (.int (nI 0)) ∧ okv v' ∧ mdf [66] v v' ∧ v' 66 = nI 1) = Q
  have hQ : ∀ u, okv u → mdf [66] v u → u 66 = nI 1 → Q (some (.int (nI 0))) u := by rw [← hQe]; exact fun u h1 h2 f0 => ⟨rfl, h1, h2, f0⟩
  clear hQe
  have hm : mdf [66] v v := mdf.rf
  show ST G mi_Mo_wire 0 [(0, .ref 373), (1, .int (nI 2)), (2, .int (nI 3)), (3, .int (nI i))] [] v 0 0 Q
  refine ST.lift (fun _ _ k => T_aload_n (v := .ref 373) d_Mo_wire_0 rfl (Or.inr ⟨_, rfl⟩) k) ?_
  refine ST.lift (fun _ _ k => T_iconst (v := nI 0) d_Mo_wire_1 (by decide) k) ?_
  refine S_putfield (v' := va_up v 66 (nI 0)) d_Mo_wire_2 (fp_Mo_316 _) (w373 _) (Nat.le_of_ble_eq_true rfl) ⟨rfl, rfl⟩ (u373_0 _ _) ?_
  have hv2 := hv.off (j := 66) (x := (nI 0)) (by decide)
  have hm3 := hm.go (mdf.up (v := v) (j := 66) (x := (nI 0))) (by intro i hi; simp only [List.mem_cons, List.not_mem_nil, or_false] at hi ⊢ <;> omega)
  have e_u1 : (va_up v 66 (nI 0)) 66 = (nI 0) := by simp [va_up]
  have e4 : (va_up v 66 (nI 0)) 106 = nI 0 := by simp only [va_up]; exact e106
  generalize va_up v 66 (nI 0) = u1 at hv2 hm3 e_u1 e4 ⊢
  refine ST.lift (fun _ _ k => T_aload_n (v := .ref 373) d_Mo_wire_5 rfl (Or.inr ⟨_, rfl⟩) k) ?_
  refine ST.lift (fun _ _ k => T_iload_n d_Mo_wire_6 rfl k) ?_
  refine ST.lift (fun _ _ k => T_iload_n d_Mo_wire_7 rfl k) ?_
  refine ST.lift (fun _ _ k => T_iload_n d_Mo_wire_8 rfl k) ?_
  refine S_virtual (as := [.int (nI 2), .int (nI 3), .int (nI i)]) (rest := []) (b := 373) d_Mo_wire_9 rfl (jw_Mo_isWire.jo (by decide)) lm_Mo_595 ji_Mo_isWire js_Mo_isWire (w373 _) rfl rfl rfl (Nat.le_of_ble_eq_true rfl) (by decide) (by decide) (c_Mo_isWire_2_3_not G u1 i (by omega) e4 hv2) (fun r u5 hq => ?_)
  obtain ⟨hr, hv6, hm7, fe0_u5⟩ := hq
  rw [hr]
  clear hr r
  have hm8 := hm3.go hm7 (by intro i hi; simp only [List.mem_cons, List.not_mem_nil, or_false] at hi ⊢ <;> omega)
  have e9 : u5 106 = nI 0 := (hm7 106 (by decide)).trans e4
  have e10 : u5 66 = nI 0 := (hm7 66 (by decide)).trans e_u1
  show ST G mi_Mo_wire 12 [(0, .ref 373), (1, .int (nI 2)), (2, .int (nI 3)), (3, .int (nI i))] [.int (nI 0)] u5 0 0 _
  refine S_if_neN d_Mo_wire_12 rfl (by omega) (fun c => by first | exact absurd c (by omega) | exact c.elim | exact absurd c (by decide) | exact absurd (by assumption) c | exact absurd c (by assumption) | exact absurd c (Int32.not_le.mpr (by assumption))) (fun _ => ?_)
  refine ST.lift (fun _ _ k => T_aload_n (v := .ref 373) d_Mo_wire_15 rfl (Or.inr ⟨_, rfl⟩) k) ?_
  refine ST.lift (fun _ _ k => T_iconst (v := nI 1) d_Mo_wire_16 (by decide) k) ?_
  refine S_putfield (v' := va_up u5 66 (nI 1)) d_Mo_wire_17 (fp_Mo_316 _) (w373 _) (Nat.le_of_ble_eq_true rfl) ⟨rfl, rfl⟩ (u373_0 _ _) ?_
  have hv12 := hv6.off (j := 66) (x := (nI 1)) (by decide)
  have hm13 := hm8.go (mdf.up (v := u5) (j := 66) (x := (nI 1))) (by intro i hi; simp only [List.mem_cons, List.not_mem_nil, or_false] at hi ⊢ <;> omega)
  have e_u11 : (va_up u5 66 (nI 1)) 66 = (nI 1) := by simp [va_up]
  have e14 : (va_up u5 66 (nI 1)) 106 = nI 0 := by simp only [va_up]; exact fe0_u5
  generalize va_up u5 66 (nI 1) = u11 at hv12 hm13 e_u11 e14 ⊢
  refine ST.lift (fun _ _ k => T_iconst (v := nI 0) d_Mo_wire_20 (by decide) k) ?_
  refine S_topi (y := nI 0) (congrArg nI (by omega)) ?_
  exact S_ret d_Mo_wire_21 rfl rfl (by decide) (by decide) (hQ _ hv12 hm13 (e_u11.trans (congrArg nI (by omega))))
set_option maxRecDepth 100000 in
set_option maxHeartbeats 4000000 in
theorem c_Mo_tamper_2_3_not (G : GX) (v : Nat → Int32) (i : Nat) (b_i : i < 2147483648) (mask : Int32) (e106 : v 106 = nI 0) (hv : okv v) : CS G mi_Mo_tamper [.ref 373, .int (nI 2), .int (nI 3), .int (nI i), .int mask] v (fun r v' => r = some (.int (nI 0)) ∧ okv v' ∧ mdf [66] v v' ∧ v' 66 = nI 0) := by
  refine CS.of (by decide) (Nat.le_of_ble_eq_true rfl) ?_
  generalize hQe : (fun (r : Option Value) (v' : Nat → Int32) => r = some (.int (nI 0)) ∧ okv v' ∧ mdf [66] v v' ∧ v' 66 = nI 0) = Q
  have hQ : ∀ u, okv u → mdf [66] v u → u 66 = nI 0 → Q (some (.int (nI 0))) u := by rw [← hQe]; exact fun u h1 h2 f0 => ⟨rfl, h1, h2, f0⟩
  clear hQe
  have hm : mdf [66] v v := mdf.rf
  show ST G mi_Mo_tamper 0 [(0, .ref 373), (1, .int (nI 2)), (2, .int (nI 3)), (3, .int (nI i)), (4, .int mask)] [] v 0 0 Q
  refine ST.lift (fun _ _ k => T_aload_n (v := .ref 373) d_Mo_tamper_0 rfl (Or.inr ⟨_, rfl⟩) k) ?_
  refine ST.lift (fun _ _ k => T_iconst (v := nI 0) d_Mo_tamper_1 (by decide) k) ?_
  refine S_putfield (v' := va_up v 66 (nI 0)) d_Mo_tamper_2 (fp_Mo_316 _) (w373 _) (Nat.le_of_ble_eq_true rfl) ⟨rfl, rfl⟩ (u373_0 _ _) ?_
  have hv2 := hv.off (j := 66) (x := (nI 0)) (by decide)
  have hm3 := hm.go (mdf.up (v := v) (j := 66) (x := (nI 0))) (by intro i hi; simp only [List.mem_cons, List.not_mem_nil, or_false] at hi ⊢ <;> omega)
  have e_u1 : (va_up v 66 (nI 0)) 66 = (nI 0) := by simp [va_up]
  have e4 : (va_up v 66 (nI 0)) 106 = nI 0 := by simp only [va_up]; exact e106
  generalize va_up v 66 (nI 0) = u1 at hv2 hm3 e_u1 e4 ⊢
  refine ST.lift (fun _ _ k => T_aload_n (v := .ref 373) d_Mo_tamper_5 rfl (Or.inr ⟨_, rfl⟩) k) ?_
  refine ST.lift (fun _ _ k => T_iload_n d_Mo_tamper_6 rfl k) ?_
  refine ST.lift (fun _ _ k => T_iload_n d_Mo_tamper_7 rfl k) ?_
  refine ST.lift (fun _ _ k => T_iload_n d_Mo_tamper_8 rfl k) ?_
  refine S_virtual (as := [.int (nI 2), .int (nI 3), .int (nI i)]) (rest := []) (b := 373) d_Mo_tamper_9 rfl (jw_Mo_isWire.jo (by decide)) lm_Mo_595 ji_Mo_isWire js_Mo_isWire (w373 _) rfl rfl rfl (Nat.le_of_ble_eq_true rfl) (by decide) (by decide) (c_Mo_isWire_2_3_not G u1 i (by omega) e4 hv2) (fun r u5 hq => ?_)
  obtain ⟨hr, hv6, hm7, fe0_u5⟩ := hq
  rw [hr]
  clear hr r
  have hm8 := hm3.go hm7 (by intro i hi; simp only [List.mem_cons, List.not_mem_nil, or_false] at hi ⊢ <;> omega)
  have e9 : u5 106 = nI 0 := (hm7 106 (by decide)).trans e4
  have e10 : u5 66 = nI 0 := (hm7 66 (by decide)).trans e_u1
  show ST G mi_Mo_tamper 12 [(0, .ref 373), (1, .int (nI 2)), (2, .int (nI 3)), (3, .int (nI i)), (4, .int mask)] [.int (nI 0)] u5 0 0 _
  refine S_if_neN d_Mo_tamper_12 rfl (by omega) (fun c => by first | exact absurd c (by omega) | exact c.elim | exact absurd c (by decide) | exact absurd (by assumption) c | exact absurd c (by assumption) | exact absurd c (Int32.not_le.mpr (by assumption))) (fun _ => ?_)
  refine ST.lift (fun _ _ k => T_iconst (v := nI 0) d_Mo_tamper_15 (by decide) k) ?_
  refine S_topi (y := nI 0) (congrArg nI (by omega)) ?_
  exact S_ret d_Mo_tamper_16 rfl (nar_z (by omega)) (by decide) (by decide) (hQ _ hv6 hm8 (e10.trans (congrArg nI (by omega))))
set_option maxRecDepth 100000 in
set_option maxHeartbeats 4000000 in
theorem c_Mo_key_2_neg (G : GX) (v : Nat → Int32) (y : Int32) (z : Int32) (hz_n : z < 0) (hv : okv v) : CS G mi_Mo_key [.ref 373, .int (nI 2), .int y, .int z] v (fun r v' => r = some (.int (nI 0)) ∧ okv v' ∧ mdf [66] v v' ∧ v' 66 = nI 1) := by
  refine CS.of (by decide) (Nat.le_of_ble_eq_true rfl) ?_
  generalize hQe : (fun (r : Option Value) (v' : Nat → Int32) => r = some (.int (nI 0)) ∧ okv v' ∧ mdf [66] v v' ∧ v' 66 = nI 1) = Q
  have hQ : ∀ u, okv u → mdf [66] v u → u 66 = nI 1 → Q (some (.int (nI 0))) u := by rw [← hQe]; exact fun u h1 h2 f0 => ⟨rfl, h1, h2, f0⟩
  clear hQe
  have hm : mdf [66] v v := mdf.rf
  show ST G mi_Mo_key 0 [(0, .ref 373), (1, .int (nI 2)), (2, .int y), (3, .int z)] [] v 0 0 Q
  refine ST.lift (fun _ _ k => T_aload_n (v := .ref 373) d_Mo_key_0 rfl (Or.inr ⟨_, rfl⟩) k) ?_
  refine ST.lift (fun _ _ k => T_iconst (v := nI 0) d_Mo_key_1 (by decide) k) ?_
  refine S_putfield (v' := va_up v 66 (nI 0)) d_Mo_key_2 (fp_Mo_316 _) (w373 _) (Nat.le_of_ble_eq_true rfl) ⟨rfl, rfl⟩ (u373_0 _ _) ?_
  have hv2 := hv.off (j := 66) (x := (nI 0)) (by decide)
  have hm3 := hm.go (mdf.up (v := v) (j := 66) (x := (nI 0))) (by intro i hi; simp only [List.mem_cons, List.not_mem_nil, or_false] at hi ⊢ <;> omega)
  have e_u1 : (va_up v 66 (nI 0)) 66 = (nI 0) := by simp [va_up]
  generalize va_up v 66 (nI 0) = u1 at hv2 hm3 e_u1 ⊢
  refine ST.lift (fun _ _ k => T_iload_n d_Mo_key_5 rfl k) ?_
  refine S_static (as := [.int (nI 2)]) (rest := []) d_Mo_key_6 rfl (jw_Mo_isSession.jo (by decide)) lm_Mo_545 jt_Mo_isSession rfl (Nat.le_of_ble_eq_true rfl) (by decide) (by decide) (c_Mo_isSession G u1 2 (by omega)) (fun r v' hq => ?_)
  rw [hq.1, hq.2]
  clear hq r v'
  show ST G mi_Mo_key 9 [(0, .ref 373), (1, .int (nI 2)), (2, .int y), (3, .int z)] [.int (nI 1)] u1 0 0 _
  refine S_if_eqN d_Mo_key_9 rfl (by omega) (fun c => by first | exact absurd c (by omega) | exact c.elim | exact absurd c (by decide) | exact absurd (by assumption) c | exact absurd c (by assumption) | exact absurd c (Int32.not_le.mpr (by assumption))) (fun _ => ?_)
  refine ST.lift (fun _ _ k => T_iload_n d_Mo_key_12 rfl k) ?_
  refine S_if_lt d_Mo_key_13 rfl (fun _ => ?_) (fun c => by first | exact absurd c (by omega) | exact c.elim | exact absurd c (by decide) | exact absurd (by assumption) c | exact absurd c (by assumption) | exact absurd c (Int32.not_le.mpr (by assumption)))
  refine ST.lift (fun _ _ k => T_iconst (v := nI 0) d_Mo_key_35 (by decide) k) ?_
  refine ST.lift (fun _ _ k => T_istore (L' := [(4, .int (nI 0)), (0, .ref 373), (1, .int (nI 2)), (2, .int y), (3, .int z)]) d_Mo_key_36 (by decide) rfl k) ?_
  refine ST.lift (fun _ _ k => T_iload d_Mo_key_38 rfl k) ?_
  refine S_if_eqN d_Mo_key_40 rfl (by omega) (fun _ => ?_) (fun c => by first | exact absurd c (by omega) | exact c.elim | exact absurd c (by decide) | exact absurd (by assumption) c | exact absurd c (by assumption) | exact absurd c (Int32.not_le.mpr (by assumption)))
  refine ST.lift (fun _ _ k => T_iload d_Mo_key_59 rfl k) ?_
  refine S_if_eqN d_Mo_key_61 rfl (by omega) (fun _ => ?_) (fun c => by first | exact absurd c (by omega) | exact c.elim | exact absurd c (by decide) | exact absurd (by assumption) c | exact absurd c (by assumption) | exact absurd c (Int32.not_le.mpr (by assumption)))
  refine ST.lift (fun _ _ k => T_iload d_Mo_key_72 rfl k) ?_
  refine S_if_neN d_Mo_key_74 rfl (by omega) (fun c => by first | exact absurd c (by omega) | exact c.elim | exact absurd c (by decide) | exact absurd (by assumption) c | exact absurd c (by assumption) | exact absurd c (Int32.not_le.mpr (by assumption))) (fun _ => ?_)
  refine ST.lift (fun _ _ k => T_aload_n (v := .ref 373) d_Mo_key_77 rfl (Or.inr ⟨_, rfl⟩) k) ?_
  refine ST.lift (fun _ _ k => T_iconst (v := nI 1) d_Mo_key_78 (by decide) k) ?_
  refine S_putfield (v' := va_up u1 66 (nI 1)) d_Mo_key_79 (fp_Mo_316 _) (w373 _) (Nat.le_of_ble_eq_true rfl) ⟨rfl, rfl⟩ (u373_0 _ _) ?_
  have hv5 := hv2.off (j := 66) (x := (nI 1)) (by decide)
  have hm6 := hm3.go (mdf.up (v := u1) (j := 66) (x := (nI 1))) (by intro i hi; simp only [List.mem_cons, List.not_mem_nil, or_false] at hi ⊢ <;> omega)
  have e_u4 : (va_up u1 66 (nI 1)) 66 = (nI 1) := by simp [va_up]
  generalize va_up u1 66 (nI 1) = u4 at hv5 hm6 e_u4 ⊢
  refine ST.lift (fun _ _ k => T_iconst (v := nI 0) d_Mo_key_82 (by decide) k) ?_
  refine S_topi (y := nI 0) (congrArg nI (by omega)) ?_
  exact S_ret d_Mo_key_83 rfl rfl (by decide) (by decide) (hQ _ hv5 hm6 (e_u4.trans (congrArg nI (by omega))))
set_option maxRecDepth 100000 in
set_option maxHeartbeats 4000000 in
theorem c_Mo_key_2_far (G : GX) (v : Nat → Int32) (y : Int32) (i : Nat) (b_i : i < 2147483648) (hi : 64 ≤ i) (hv : okv v) : CS G mi_Mo_key [.ref 373, .int (nI 2), .int y, .int (nI i)] v (fun r v' => r = some (.int (nI 0)) ∧ okv v' ∧ mdf [66] v v' ∧ v' 66 = nI 1) := by
  refine CS.of (by decide) (Nat.le_of_ble_eq_true rfl) ?_
  generalize hQe : (fun (r : Option Value) (v' : Nat → Int32) => r = some (.int (nI 0)) ∧ okv v' ∧ mdf [66] v v' ∧ v' 66 = nI 1) = Q
  have hQ : ∀ u, okv u → mdf [66] v u → u 66 = nI 1 → Q (some (.int (nI 0))) u := by rw [← hQe]; exact fun u h1 h2 f0 => ⟨rfl, h1, h2, f0⟩
  clear hQe
  have hm : mdf [66] v v := mdf.rf
  show ST G mi_Mo_key 0 [(0, .ref 373), (1, .int (nI 2)), (2, .int y), (3, .int (nI i))] [] v 0 0 Q
  refine ST.lift (fun _ _ k => T_aload_n (v := .ref 373) d_Mo_key_0 rfl (Or.inr ⟨_, rfl⟩) k) ?_
  refine ST.lift (fun _ _ k => T_iconst (v := nI 0) d_Mo_key_1 (by decide) k) ?_
  refine S_putfield (v' := va_up v 66 (nI 0)) d_Mo_key_2 (fp_Mo_316 _) (w373 _) (Nat.le_of_ble_eq_true rfl) ⟨rfl, rfl⟩ (u373_0 _ _) ?_
  have hv2 := hv.off (j := 66) (x := (nI 0)) (by decide)
  have hm3 := hm.go (mdf.up (v := v) (j := 66) (x := (nI 0))) (by intro i hi; simp only [List.mem_cons, List.not_mem_nil, or_false] at hi ⊢ <;> omega)
  have e_u1 : (va_up v 66 (nI 0)) 66 = (nI 0) := by simp [va_up]
  generalize va_up v 66 (nI 0) = u1 at hv2 hm3 e_u1 ⊢
  refine ST.lift (fun _ _ k => T_iload_n d_Mo_key_5 rfl k) ?_
  refine S_static (as := [.int (nI 2)]) (rest := []) d_Mo_key_6 rfl (jw_Mo_isSession.jo (by decide)) lm_Mo_545 jt_Mo_isSession rfl (Nat.le_of_ble_eq_true rfl) (by decide) (by decide) (c_Mo_isSession G u1 2 (by omega)) (fun r v' hq => ?_)
  rw [hq.1, hq.2]
  clear hq r v'
  show ST G mi_Mo_key 9 [(0, .ref 373), (1, .int (nI 2)), (2, .int y), (3, .int (nI i))] [.int (nI 1)] u1 0 0 _
  refine S_if_eqN d_Mo_key_9 rfl (by omega) (fun c => by first | exact absurd c (by omega) | exact c.elim | exact absurd c (by decide) | exact absurd (by assumption) c | exact absurd c (by assumption) | exact absurd c (Int32.not_le.mpr (by assumption))) (fun _ => ?_)
  refine ST.lift (fun _ _ k => T_iload_n d_Mo_key_12 rfl k) ?_
  refine S_if_ltN d_Mo_key_13 rfl (by omega) (fun c => by first | exact absurd c (by omega) | exact c.elim | exact absurd c (by decide) | exact absurd (by assumption) c | exact absurd c (by assumption) | exact absurd c (Int32.not_le.mpr (by assumption))) (fun _ => ?_)
  refine ST.lift (fun _ _ k => T_iload_n d_Mo_key_16 rfl k) ?_
  refine ST.lift (fun _ _ k => T_bipush (v := nI 64) d_Mo_key_17 (by decide) k) ?_
  refine S_icmp_geN d_Mo_key_19 rfl (by omega) (by omega) (fun _ => ?_) (fun c => by first | exact absurd c (by omega) | exact c.elim | exact absurd c (by decide) | exact absurd (by assumption) c | exact absurd c (by assumption) | exact absurd c (Int32.not_le.mpr (by assumption)))
  refine ST.lift (fun _ _ k => T_iconst (v := nI 0) d_Mo_key_35 (by decide) k) ?_
  refine ST.lift (fun _ _ k => T_istore (L' := [(4, .int (nI 0)), (0, .ref 373), (1, .int (nI 2)), (2, .int y), (3, .int (nI i))]) d_Mo_key_36 (by decide) rfl k) ?_
  refine ST.lift (fun _ _ k => T_iload d_Mo_key_38 rfl k) ?_
  refine S_if_eqN d_Mo_key_40 rfl (by omega) (fun _ => ?_) (fun c => by first | exact absurd c (by omega) | exact c.elim | exact absurd c (by decide) | exact absurd (by assumption) c | exact absurd c (by assumption) | exact absurd c (Int32.not_le.mpr (by assumption)))
  refine ST.lift (fun _ _ k => T_iload d_Mo_key_59 rfl k) ?_
  refine S_if_eqN d_Mo_key_61 rfl (by omega) (fun _ => ?_) (fun c => by first | exact absurd c (by omega) | exact c.elim | exact absurd c (by decide) | exact absurd (by assumption) c | exact absurd c (by assumption) | exact absurd c (Int32.not_le.mpr (by assumption)))
  refine ST.lift (fun _ _ k => T_iload d_Mo_key_72 rfl k) ?_
  refine S_if_neN d_Mo_key_74 rfl (by omega) (fun c => by first | exact absurd c (by omega) | exact c.elim | exact absurd c (by decide) | exact absurd (by assumption) c | exact absurd c (by assumption) | exact absurd c (Int32.not_le.mpr (by assumption))) (fun _ => ?_)
  refine ST.lift (fun _ _ k => T_aload_n (v := .ref 373) d_Mo_key_77 rfl (Or.inr ⟨_, rfl⟩) k) ?_
  refine ST.lift (fun _ _ k => T_iconst (v := nI 1) d_Mo_key_78 (by decide) k) ?_
  refine S_putfield (v' := va_up u1 66 (nI 1)) d_Mo_key_79 (fp_Mo_316 _) (w373 _) (Nat.le_of_ble_eq_true rfl) ⟨rfl, rfl⟩ (u373_0 _ _) ?_
  have hv5 := hv2.off (j := 66) (x := (nI 1)) (by decide)
  have hm6 := hm3.go (mdf.up (v := u1) (j := 66) (x := (nI 1))) (by intro i hi; simp only [List.mem_cons, List.not_mem_nil, or_false] at hi ⊢ <;> omega)
  have e_u4 : (va_up u1 66 (nI 1)) 66 = (nI 1) := by simp [va_up]
  generalize va_up u1 66 (nI 1) = u4 at hv5 hm6 e_u4 ⊢
  refine ST.lift (fun _ _ k => T_iconst (v := nI 0) d_Mo_key_82 (by decide) k) ?_
  refine S_topi (y := nI 0) (congrArg nI (by omega)) ?_
  exact S_ret d_Mo_key_83 rfl rfl (by decide) (by decide) (hQ _ hv5 hm6 (e_u4.trans (congrArg nI (by omega))))
set_option maxRecDepth 100000 in
set_option maxHeartbeats 4000000 in
theorem c_Mo_key_2_lt (G : GX) (v : Nat → Int32) (y : Int32) (i : Nat) (b_i : i < 64) (hy : y < 0) (hv : okv v) : CS G mi_Mo_key [.ref 373, .int (nI 2), .int y, .int (nI i)] v (fun r v' => r = some (.int (nI 0)) ∧ okv v' ∧ mdf [66] v v' ∧ v' 66 = nI 1) := by
  refine CS.of (by decide) (Nat.le_of_ble_eq_true rfl) ?_
  generalize hQe : (fun (r : Option Value) (v' : Nat → Int32) => r = some (.int (nI 0)) ∧ okv v' ∧ mdf [66] v v' ∧ v' 66 = nI 1) = Q
  have hQ : ∀ u, okv u → mdf [66] v u → u 66 = nI 1 → Q (some (.int (nI 0))) u := by rw [← hQe]; exact fun u h1 h2 f0 => ⟨rfl, h1, h2, f0⟩
  clear hQe
  have hm : mdf [66] v v := mdf.rf
  show ST G mi_Mo_key 0 [(0, .ref 373), (1, .int (nI 2)), (2, .int y), (3, .int (nI i))] [] v 0 0 Q
  refine ST.lift (fun _ _ k => T_aload_n (v := .ref 373) d_Mo_key_0 rfl (Or.inr ⟨_, rfl⟩) k) ?_
  refine ST.lift (fun _ _ k => T_iconst (v := nI 0) d_Mo_key_1 (by decide) k) ?_
  refine S_putfield (v' := va_up v 66 (nI 0)) d_Mo_key_2 (fp_Mo_316 _) (w373 _) (Nat.le_of_ble_eq_true rfl) ⟨rfl, rfl⟩ (u373_0 _ _) ?_
  have hv2 := hv.off (j := 66) (x := (nI 0)) (by decide)
  have hm3 := hm.go (mdf.up (v := v) (j := 66) (x := (nI 0))) (by intro i hi; simp only [List.mem_cons, List.not_mem_nil, or_false] at hi ⊢ <;> omega)
  have e_u1 : (va_up v 66 (nI 0)) 66 = (nI 0) := by simp [va_up]
  generalize va_up v 66 (nI 0) = u1 at hv2 hm3 e_u1 ⊢
  refine ST.lift (fun _ _ k => T_iload_n d_Mo_key_5 rfl k) ?_
  refine S_static (as := [.int (nI 2)]) (rest := []) d_Mo_key_6 rfl (jw_Mo_isSession.jo (by decide)) lm_Mo_545 jt_Mo_isSession rfl (Nat.le_of_ble_eq_true rfl) (by decide) (by decide) (c_Mo_isSession G u1 2 (by omega)) (fun r v' hq => ?_)
  rw [hq.1, hq.2]
  clear hq r v'
  show ST G mi_Mo_key 9 [(0, .ref 373), (1, .int (nI 2)), (2, .int y), (3, .int (nI i))] [.int (nI 1)] u1 0 0 _
  refine S_if_eqN d_Mo_key_9 rfl (by omega) (fun c => by first | exact absurd c (by omega) | exact c.elim | exact absurd c (by decide) | exact absurd (by assumption) c | exact absurd c (by assumption) | exact absurd c (Int32.not_le.mpr (by assumption))) (fun _ => ?_)
  refine ST.lift (fun _ _ k => T_iload_n d_Mo_key_12 rfl k) ?_
  refine S_if_ltN d_Mo_key_13 rfl (by omega) (fun c => by first | exact absurd c (by omega) | exact c.elim | exact absurd c (by decide) | exact absurd (by assumption) c | exact absurd c (by assumption) | exact absurd c (Int32.not_le.mpr (by assumption))) (fun _ => ?_)
  refine ST.lift (fun _ _ k => T_iload_n d_Mo_key_16 rfl k) ?_
  refine ST.lift (fun _ _ k => T_bipush (v := nI 64) d_Mo_key_17 (by decide) k) ?_
  refine S_icmp_geN d_Mo_key_19 rfl (by omega) (by omega) (fun c => by first | exact absurd c (by omega) | exact c.elim | exact absurd c (by decide) | exact absurd (by assumption) c | exact absurd c (by assumption) | exact absurd c (Int32.not_le.mpr (by assumption))) (fun _ => ?_)
  refine ST.lift (fun _ _ k => T_iload_n d_Mo_key_22 rfl k) ?_
  refine S_if_lt d_Mo_key_23 rfl (fun _ => ?_) (fun c => by first | exact absurd c (by omega) | exact c.elim | exact absurd c (by decide) | exact absurd (by assumption) c | exact absurd c (by assumption) | exact absurd c (Int32.not_le.mpr (by assumption)))
  refine ST.lift (fun _ _ k => T_iconst (v := nI 0) d_Mo_key_35 (by decide) k) ?_
  refine ST.lift (fun _ _ k => T_istore (L' := [(4, .int (nI 0)), (0, .ref 373), (1, .int (nI 2)), (2, .int y), (3, .int (nI i))]) d_Mo_key_36 (by decide) rfl k) ?_
  refine ST.lift (fun _ _ k => T_iload d_Mo_key_38 rfl k) ?_
  refine S_if_eqN d_Mo_key_40 rfl (by omega) (fun _ => ?_) (fun c => by first | exact absurd c (by omega) | exact c.elim | exact absurd c (by decide) | exact absurd (by assumption) c | exact absurd c (by assumption) | exact absurd c (Int32.not_le.mpr (by assumption)))
  refine ST.lift (fun _ _ k => T_iload d_Mo_key_59 rfl k) ?_
  refine S_if_eqN d_Mo_key_61 rfl (by omega) (fun _ => ?_) (fun c => by first | exact absurd c (by omega) | exact c.elim | exact absurd c (by decide) | exact absurd (by assumption) c | exact absurd c (by assumption) | exact absurd c (Int32.not_le.mpr (by assumption)))
  refine ST.lift (fun _ _ k => T_iload d_Mo_key_72 rfl k) ?_
  refine S_if_neN d_Mo_key_74 rfl (by omega) (fun c => by first | exact absurd c (by omega) | exact c.elim | exact absurd c (by decide) | exact absurd (by assumption) c | exact absurd c (by assumption) | exact absurd c (Int32.not_le.mpr (by assumption))) (fun _ => ?_)
  refine ST.lift (fun _ _ k => T_aload_n (v := .ref 373) d_Mo_key_77 rfl (Or.inr ⟨_, rfl⟩) k) ?_
  refine ST.lift (fun _ _ k => T_iconst (v := nI 1) d_Mo_key_78 (by decide) k) ?_
  refine S_putfield (v' := va_up u1 66 (nI 1)) d_Mo_key_79 (fp_Mo_316 _) (w373 _) (Nat.le_of_ble_eq_true rfl) ⟨rfl, rfl⟩ (u373_0 _ _) ?_
  have hv5 := hv2.off (j := 66) (x := (nI 1)) (by decide)
  have hm6 := hm3.go (mdf.up (v := u1) (j := 66) (x := (nI 1))) (by intro i hi; simp only [List.mem_cons, List.not_mem_nil, or_false] at hi ⊢ <;> omega)
  have e_u4 : (va_up u1 66 (nI 1)) 66 = (nI 1) := by simp [va_up]
  generalize va_up u1 66 (nI 1) = u4 at hv5 hm6 e_u4 ⊢
  refine ST.lift (fun _ _ k => T_iconst (v := nI 0) d_Mo_key_82 (by decide) k) ?_
  refine S_topi (y := nI 0) (congrArg nI (by omega)) ?_
  exact S_ret d_Mo_key_83 rfl rfl (by decide) (by decide) (hQ _ hv5 hm6 (e_u4.trans (congrArg nI (by omega))))
set_option maxRecDepth 100000 in
set_option maxHeartbeats 4000000 in
theorem c_Mo_key_2_gt (G : GX) (v : Nat → Int32) (y : Int32) (i : Nat) (b_i : i < 64) (h0 : ¬ y < 0) (hy : nI 3 ≤ y) (hv : okv v) : CS G mi_Mo_key [.ref 373, .int (nI 2), .int y, .int (nI i)] v (fun r v' => r = some (.int (nI 0)) ∧ okv v' ∧ mdf [66] v v' ∧ v' 66 = nI 1) := by
  refine CS.of (by decide) (Nat.le_of_ble_eq_true rfl) ?_
  generalize hQe : (fun (r : Option Value) (v' : Nat → Int32) => r = some (.int (nI 0)) ∧ okv v' ∧ mdf [66] v v' ∧ v' 66 = nI 1) = Q
  have hQ : ∀ u, okv u → mdf [66] v u → u 66 = nI 1 → Q (some (.int (nI 0))) u := by rw [← hQe]; exact fun u h1 h2 f0 => ⟨rfl, h1, h2, f0⟩
  clear hQe
  have hm : mdf [66] v v := mdf.rf
  show ST G mi_Mo_key 0 [(0, .ref 373), (1, .int (nI 2)), (2, .int y), (3, .int (nI i))] [] v 0 0 Q
  refine ST.lift (fun _ _ k => T_aload_n (v := .ref 373) d_Mo_key_0 rfl (Or.inr ⟨_, rfl⟩) k) ?_
  refine ST.lift (fun _ _ k => T_iconst (v := nI 0) d_Mo_key_1 (by decide) k) ?_
  refine S_putfield (v' := va_up v 66 (nI 0)) d_Mo_key_2 (fp_Mo_316 _) (w373 _) (Nat.le_of_ble_eq_true rfl) ⟨rfl, rfl⟩ (u373_0 _ _) ?_
  have hv2 := hv.off (j := 66) (x := (nI 0)) (by decide)
  have hm3 := hm.go (mdf.up (v := v) (j := 66) (x := (nI 0))) (by intro i hi; simp only [List.mem_cons, List.not_mem_nil, or_false] at hi ⊢ <;> omega)
  have e_u1 : (va_up v 66 (nI 0)) 66 = (nI 0) := by simp [va_up]
  generalize va_up v 66 (nI 0) = u1 at hv2 hm3 e_u1 ⊢
  refine ST.lift (fun _ _ k => T_iload_n d_Mo_key_5 rfl k) ?_
  refine S_static (as := [.int (nI 2)]) (rest := []) d_Mo_key_6 rfl (jw_Mo_isSession.jo (by decide)) lm_Mo_545 jt_Mo_isSession rfl (Nat.le_of_ble_eq_true rfl) (by decide) (by decide) (c_Mo_isSession G u1 2 (by omega)) (fun r v' hq => ?_)
  rw [hq.1, hq.2]
  clear hq r v'
  show ST G mi_Mo_key 9 [(0, .ref 373), (1, .int (nI 2)), (2, .int y), (3, .int (nI i))] [.int (nI 1)] u1 0 0 _
  refine S_if_eqN d_Mo_key_9 rfl (by omega) (fun c => by first | exact absurd c (by omega) | exact c.elim | exact absurd c (by decide) | exact absurd (by assumption) c | exact absurd c (by assumption) | exact absurd c (Int32.not_le.mpr (by assumption))) (fun _ => ?_)
  refine ST.lift (fun _ _ k => T_iload_n d_Mo_key_12 rfl k) ?_
  refine S_if_ltN d_Mo_key_13 rfl (by omega) (fun c => by first | exact absurd c (by omega) | exact c.elim | exact absurd c (by decide) | exact absurd (by assumption) c | exact absurd c (by assumption) | exact absurd c (Int32.not_le.mpr (by assumption))) (fun _ => ?_)
  refine ST.lift (fun _ _ k => T_iload_n d_Mo_key_16 rfl k) ?_
  refine ST.lift (fun _ _ k => T_bipush (v := nI 64) d_Mo_key_17 (by decide) k) ?_
  refine S_icmp_geN d_Mo_key_19 rfl (by omega) (by omega) (fun c => by first | exact absurd c (by omega) | exact c.elim | exact absurd c (by decide) | exact absurd (by assumption) c | exact absurd c (by assumption) | exact absurd c (Int32.not_le.mpr (by assumption))) (fun _ => ?_)
  refine ST.lift (fun _ _ k => T_iload_n d_Mo_key_22 rfl k) ?_
  refine S_if_lt d_Mo_key_23 rfl (fun c => by first | exact absurd c (by omega) | exact c.elim | exact absurd c (by decide) | exact absurd (by assumption) c | exact absurd c (by assumption) | exact absurd c (Int32.not_le.mpr (by assumption))) (fun _ => ?_)
  refine ST.lift (fun _ _ k => T_iload_n d_Mo_key_26 rfl k) ?_
  refine ST.lift (fun _ _ k => T_iconst (v := nI 3) d_Mo_key_27 (by decide) k) ?_
  refine S_icmp_ge d_Mo_key_28 rfl (fun _ => ?_) (fun c => by first | exact absurd c (by omega) | exact c.elim | exact absurd c (by decide) | exact absurd (by assumption) c | exact absurd c (by assumption) | exact absurd c (Int32.not_le.mpr (by assumption)))
  refine ST.lift (fun _ _ k => T_iconst (v := nI 0) d_Mo_key_35 (by decide) k) ?_
  refine ST.lift (fun _ _ k => T_istore (L' := [(4, .int (nI 0)), (0, .ref 373), (1, .int (nI 2)), (2, .int y), (3, .int (nI i))]) d_Mo_key_36 (by decide) rfl k) ?_
  refine ST.lift (fun _ _ k => T_iload d_Mo_key_38 rfl k) ?_
  refine S_if_eqN d_Mo_key_40 rfl (by omega) (fun _ => ?_) (fun c => by first | exact absurd c (by omega) | exact c.elim | exact absurd c (by decide) | exact absurd (by assumption) c | exact absurd c (by assumption) | exact absurd c (Int32.not_le.mpr (by assumption)))
  refine ST.lift (fun _ _ k => T_iload d_Mo_key_59 rfl k) ?_
  refine S_if_eqN d_Mo_key_61 rfl (by omega) (fun _ => ?_) (fun c => by first | exact absurd c (by omega) | exact c.elim | exact absurd c (by decide) | exact absurd (by assumption) c | exact absurd c (by assumption) | exact absurd c (Int32.not_le.mpr (by assumption)))
  refine ST.lift (fun _ _ k => T_iload d_Mo_key_72 rfl k) ?_
  refine S_if_neN d_Mo_key_74 rfl (by omega) (fun c => by first | exact absurd c (by omega) | exact c.elim | exact absurd c (by decide) | exact absurd (by assumption) c | exact absurd c (by assumption) | exact absurd c (Int32.not_le.mpr (by assumption))) (fun _ => ?_)
  refine ST.lift (fun _ _ k => T_aload_n (v := .ref 373) d_Mo_key_77 rfl (Or.inr ⟨_, rfl⟩) k) ?_
  refine ST.lift (fun _ _ k => T_iconst (v := nI 1) d_Mo_key_78 (by decide) k) ?_
  refine S_putfield (v' := va_up u1 66 (nI 1)) d_Mo_key_79 (fp_Mo_316 _) (w373 _) (Nat.le_of_ble_eq_true rfl) ⟨rfl, rfl⟩ (u373_0 _ _) ?_
  have hv5 := hv2.off (j := 66) (x := (nI 1)) (by decide)
  have hm6 := hm3.go (mdf.up (v := u1) (j := 66) (x := (nI 1))) (by intro i hi; simp only [List.mem_cons, List.not_mem_nil, or_false] at hi ⊢ <;> omega)
  have e_u4 : (va_up u1 66 (nI 1)) 66 = (nI 1) := by simp [va_up]
  generalize va_up u1 66 (nI 1) = u4 at hv5 hm6 e_u4 ⊢
  refine ST.lift (fun _ _ k => T_iconst (v := nI 0) d_Mo_key_82 (by decide) k) ?_
  refine S_topi (y := nI 0) (congrArg nI (by omega)) ?_
  exact S_ret d_Mo_key_83 rfl rfl (by decide) (by decide) (hQ _ hv5 hm6 (e_u4.trans (congrArg nI (by omega))))
set_option maxRecDepth 100000 in
set_option maxHeartbeats 4000000 in
theorem c_Mo_key_2_0 (G : GX) (v : Nat → Int32) (i : Nat) (b_i : i < 64) (hv : okv v) : CS G mi_Mo_key [.ref 373, .int (nI 2), .int (nI 0), .int (nI i)] v (fun r v' => ∃ z : Int32, r = some (.int z) ∧ okv v' ∧ mdf [66] v v') := by
  refine CS.of (by decide) (Nat.le_of_ble_eq_true rfl) ?_
  generalize hQe : (fun (r : Option Value) (v' : Nat → Int32) => ∃ z : Int32, r = some (.int z) ∧ okv v' ∧ mdf [66] v v') = Q
  have hQ : ∀ (z : Int32) (u : Nat → Int32), okv u → mdf [66] v u → Q (some (.int z)) u := by rw [← hQe]; exact fun z u h1 h2  => ⟨z, rfl, h1, h2⟩
  clear hQe
  have hm : mdf [66] v v := mdf.rf
  show ST G mi_Mo_key 0 [(0, .ref 373), (1, .int (nI 2)), (2, .int (nI 0)), (3, .int (nI i))] [] v 0 0 Q
  refine ST.lift (fun _ _ k => T_aload_n (v := .ref 373) d_Mo_key_0 rfl (Or.inr ⟨_, rfl⟩) k) ?_
  refine ST.lift (fun _ _ k => T_iconst (v := nI 0) d_Mo_key_1 (by decide) k) ?_
  refine S_putfield (v' := va_up v 66 (nI 0)) d_Mo_key_2 (fp_Mo_316 _) (w373 _) (Nat.le_of_ble_eq_true rfl) ⟨rfl, rfl⟩ (u373_0 _ _) ?_
  have hv2 := hv.off (j := 66) (x := (nI 0)) (by decide)
  have hm3 := hm.go (mdf.up (v := v) (j := 66) (x := (nI 0))) (by intro i hi; simp only [List.mem_cons, List.not_mem_nil, or_false] at hi ⊢ <;> omega)
  have e_u1 : (va_up v 66 (nI 0)) 66 = (nI 0) := by simp [va_up]
  generalize va_up v 66 (nI 0) = u1 at hv2 hm3 e_u1 ⊢
  refine ST.lift (fun _ _ k => T_iload_n d_Mo_key_5 rfl k) ?_
  refine S_static (as := [.int (nI 2)]) (rest := []) d_Mo_key_6 rfl (jw_Mo_isSession.jo (by decide)) lm_Mo_545 jt_Mo_isSession rfl (Nat.le_of_ble_eq_true rfl) (by decide) (by decide) (c_Mo_isSession G u1 2 (by omega)) (fun r v' hq => ?_)
  rw [hq.1, hq.2]
  clear hq r v'
  show ST G mi_Mo_key 9 [(0, .ref 373), (1, .int (nI 2)), (2, .int (nI 0)), (3, .int (nI i))] [.int (nI 1)] u1 0 0 _
  refine S_if_eqN d_Mo_key_9 rfl (by omega) (fun c => by first | exact absurd c (by omega) | exact c.elim | exact absurd c (by decide) | exact absurd (by assumption) c | exact absurd c (by assumption) | exact absurd c (Int32.not_le.mpr (by assumption))) (fun _ => ?_)
  refine ST.lift (fun _ _ k => T_iload_n d_Mo_key_12 rfl k) ?_
  refine S_if_ltN d_Mo_key_13 rfl (by omega) (fun c => by first | exact absurd c (by omega) | exact c.elim | exact absurd c (by decide) | exact absurd (by assumption) c | exact absurd c (by assumption) | exact absurd c (Int32.not_le.mpr (by assumption))) (fun _ => ?_)
  refine ST.lift (fun _ _ k => T_iload_n d_Mo_key_16 rfl k) ?_
  refine ST.lift (fun _ _ k => T_bipush (v := nI 64) d_Mo_key_17 (by decide) k) ?_
  have J36_6 : ∀ (z5 : Nat) (hz5 : z5 ≤ 1), ST G mi_Mo_key 36 [(0, .ref 373), (1, .int (nI 2)), (2, .int (nI 0)), (3, .int (nI i))] [.int (nI z5)] u1 0 0 Q := by
    intro z5 hz5
    refine ST.lift (fun _ _ k => T_istore (L' := [(4, .int (nI z5)), (0, .ref 373), (1, .int (nI 2)), (2, .int (nI 0)), (3, .int (nI i))]) d_Mo_key_36 (by decide) rfl k) ?_
    refine ST.lift (fun _ _ k => T_iload d_Mo_key_38 rfl k) ?_
    have J72_11 : ∀ (z10 : Int32), ST G mi_Mo_key 72 [(4, .int z10), (0, .ref 373), (1, .int (nI 2)), (2, .int (nI 0)), (3, .int (nI i))] [] u1 0 0 Q := by
      intro z10
      refine ST.lift (fun _ _ k => T_iload d_Mo_key_72 rfl k) ?_
      refine S_if_ne d_Mo_key_74 rfl (fun c12 => ?_) (fun c12 => ?_)
      · refine ST.lift (fun _ _ k => T_iload_n d_Mo_key_84 rfl k) ?_
        refine S_if_neN d_Mo_key_85 rfl (by omega) (fun c => by first | exact absurd c (by omega) | exact c.elim | exact absurd c (by decide) | exact absurd (by assumption) c | exact absurd c (by assumption) | exact absurd c (Int32.not_le.mpr (by assumption))) (fun _ => ?_)
        refine ST.lift (fun _ _ k => T_aload_n (v := .ref 373) d_Mo_key_88 rfl (Or.inr ⟨_, rfl⟩) k) ?_
        refine S_getfield d_Mo_key_89 fg_Mo_431 (w373 _) rfl ?_
        refine ST.lift (fun _ _ k => T_bipush (v := nI 64) d_Mo_key_92 (by decide) k) ?_
        refine ST.lift (fun _ _ k => T_iload_n d_Mo_key_94 rfl k) ?_
        refine S_imulN d_Mo_key_95 ?_
        refine S_topi (y := nI 128) (by decide) ?_
        refine ST.lift (fun _ _ k => T_iload_n d_Mo_key_96 rfl k) ?_
        refine S_iaddN d_Mo_key_97 ?_
        refine S_iaload d_Mo_key_98 a437 (vp_in_nI (by omega) (by omega)) (fun z13 => ?_)
        exact S_ret d_Mo_key_99 rfl rfl (by decide) (by decide) (hQ _ _ hv2 hm3)
      · refine ST.lift (fun _ _ k => T_aload_n (v := .ref 373) d_Mo_key_77 rfl (Or.inr ⟨_, rfl⟩) k) ?_
        refine ST.lift (fun _ _ k => T_iconst (v := nI 1) d_Mo_key_78 (by decide) k) ?_
        refine S_putfield (v' := va_up u1 66 (nI 1)) d_Mo_key_79 (fp_Mo_316 _) (w373 _) (Nat.le_of_ble_eq_true rfl) ⟨rfl, rfl⟩ (u373_0 _ _) ?_
        have hv15 := hv2.off (j := 66) (x := (nI 1)) (by decide)
        have hm16 := hm3.go (mdf.up (v := u1) (j := 66) (x := (nI 1))) (by intro i hi; simp only [List.mem_cons, List.not_mem_nil, or_false] at hi ⊢ <;> omega)
        have e_u14 : (va_up u1 66 (nI 1)) 66 = (nI 1) := by simp [va_up]
        generalize va_up u1 66 (nI 1) = u14 at hv15 hm16 e_u14 ⊢
        refine ST.lift (fun _ _ k => T_iconst (v := nI 0) d_Mo_key_82 (by decide) k) ?_
        exact S_ret d_Mo_key_83 rfl rfl (by decide) (by decide) (hQ _ _ hv15 hm16)
    refine S_if_eqN d_Mo_key_40 rfl (by omega) (fun c7 => ?_) (fun c7 => ?_)
    · refine ST.lift (fun _ _ k => T_iload d_Mo_key_59 rfl k) ?_
      refine S_if_eqN d_Mo_key_61 rfl (by omega) (fun c17 => ?_) (fun c17 => ?_)
      · exact J72_11 (nI z5)
      · refine ST.lift (fun _ _ k => T_aload_n (v := .ref 373) d_Mo_key_64 rfl (Or.inr ⟨_, rfl⟩) k) ?_
        refine S_getfield d_Mo_key_65 fg_Mo_410 (w373 _) rfl ?_
        refine ST.lift (fun _ _ k => T_iload_n d_Mo_key_68 rfl k) ?_
        refine S_xload (t := 3) (k := 2) (Or.inr ⟨rfl, d_Mo_key_69⟩) rfl (w430 _) (by decide) (by decide) ?_
        refine S_topi (y := u1 122) rfl ?_
        refine ST.lift (fun _ _ k => T_istore (L' := [(4, .int (u1 122)), (0, .ref 373), (1, .int (nI 2)), (2, .int (nI 0)), (3, .int (nI i))]) d_Mo_key_70 (by decide) rfl k) ?_
        exact J72_11 (u1 122)
    · refine ST.lift (fun _ _ k => T_iload_n d_Mo_key_43 rfl k) ?_
      refine ST.lift (fun _ _ k => T_iconst (v := nI 1) d_Mo_key_44 (by decide) k) ?_
      refine S_icmp_neN d_Mo_key_45 rfl (by omega) (by omega) (fun _ => ?_) (fun c => by first | exact absurd c (by omega) | exact c.elim | exact absurd c (by decide) | exact absurd (by assumption) c | exact absurd c (by assumption) | exact absurd c (Int32.not_le.mpr (by assumption)))
      refine ST.lift (fun _ _ k => T_iload d_Mo_key_59 rfl k) ?_
      refine S_if_eqN d_Mo_key_61 rfl (by omega) (fun c18 => ?_) (fun c18 => ?_)
      · exact J72_11 (nI z5)
      · refine ST.lift (fun _ _ k => T_aload_n (v := .ref 373) d_Mo_key_64 rfl (Or.inr ⟨_, rfl⟩) k) ?_
        refine S_getfield d_Mo_key_65 fg_Mo_410 (w373 _) rfl ?_
        refine ST.lift (fun _ _ k => T_iload_n d_Mo_key_68 rfl k) ?_
        refine S_xload (t := 3) (k := 2) (Or.inr ⟨rfl, d_Mo_key_69⟩) rfl (w430 _) (by decide) (by decide) ?_
        refine S_topi (y := u1 122) rfl ?_
        refine ST.lift (fun _ _ k => T_istore (L' := [(4, .int (u1 122)), (0, .ref 373), (1, .int (nI 2)), (2, .int (nI 0)), (3, .int (nI i))]) d_Mo_key_70 (by decide) rfl k) ?_
        exact J72_11 (u1 122)
  refine S_icmp_geN d_Mo_key_19 rfl (by omega) (by omega) (fun c4 => ?_) (fun c4 => ?_)
  · refine ST.lift (fun _ _ k => T_iconst (v := nI 0) d_Mo_key_35 (by decide) k) ?_
    exact J36_6 0 (by omega)
  · refine ST.lift (fun _ _ k => T_iload_n d_Mo_key_22 rfl k) ?_
    refine S_if_ltN d_Mo_key_23 rfl (by omega) (fun c => by first | exact absurd c (by omega) | exact c.elim | exact absurd c (by decide) | exact absurd (by assumption) c | exact absurd c (by assumption) | exact absurd c (Int32.not_le.mpr (by assumption))) (fun _ => ?_)
    refine ST.lift (fun _ _ k => T_iload_n d_Mo_key_26 rfl k) ?_
    refine ST.lift (fun _ _ k => T_iconst (v := nI 3) d_Mo_key_27 (by decide) k) ?_
    refine S_icmp_geN d_Mo_key_28 rfl (by omega) (by omega) (fun c => by first | exact absurd c (by omega) | exact c.elim | exact absurd c (by decide) | exact absurd (by assumption) c | exact absurd c (by assumption) | exact absurd c (Int32.not_le.mpr (by assumption))) (fun _ => ?_)
    refine ST.lift (fun _ _ k => T_iconst (v := nI 1) d_Mo_key_31 (by decide) k) ?_
    refine ST.lift (fun _ _ k => T_goto (tgt := 36) d_Mo_key_32 rfl k) ?_
    exact J36_6 1 (by omega)
set_option maxRecDepth 100000 in
set_option maxHeartbeats 4000000 in
theorem c_Mo_key_2_0_not (G : GX) (v : Nat → Int32) (i : Nat) (b_i : i < 64) (e122 : v 122 = nI 0) (hv : okv v) : CS G mi_Mo_key [.ref 373, .int (nI 2), .int (nI 0), .int (nI i)] v (fun r v' => r = some (.int (nI 0)) ∧ okv v' ∧ mdf [66] v v' ∧ v' 66 = nI 1) := by
  refine CS.of (by decide) (Nat.le_of_ble_eq_true rfl) ?_
  generalize hQe : (fun (r : Option Value) (v' : Nat → Int32) => r = some (.int (nI 0)) ∧ okv v' ∧ mdf [66] v v' ∧ v' 66 = nI 1) = Q
  have hQ : ∀ u, okv u → mdf [66] v u → u 66 = nI 1 → Q (some (.int (nI 0))) u := by rw [← hQe]; exact fun u h1 h2 f0 => ⟨rfl, h1, h2, f0⟩
  clear hQe
  have hm : mdf [66] v v := mdf.rf
  show ST G mi_Mo_key 0 [(0, .ref 373), (1, .int (nI 2)), (2, .int (nI 0)), (3, .int (nI i))] [] v 0 0 Q
  refine ST.lift (fun _ _ k => T_aload_n (v := .ref 373) d_Mo_key_0 rfl (Or.inr ⟨_, rfl⟩) k) ?_
  refine ST.lift (fun _ _ k => T_iconst (v := nI 0) d_Mo_key_1 (by decide) k) ?_
  refine S_putfield (v' := va_up v 66 (nI 0)) d_Mo_key_2 (fp_Mo_316 _) (w373 _) (Nat.le_of_ble_eq_true rfl) ⟨rfl, rfl⟩ (u373_0 _ _) ?_
  have hv2 := hv.off (j := 66) (x := (nI 0)) (by decide)
  have hm3 := hm.go (mdf.up (v := v) (j := 66) (x := (nI 0))) (by intro i hi; simp only [List.mem_cons, List.not_mem_nil, or_false] at hi ⊢ <;> omega)
  have e_u1 : (va_up v 66 (nI 0)) 66 = (nI 0) := by simp [va_up]
  have e4 : (va_up v 66 (nI 0)) 122 = nI 0 := by simp only [va_up]; exact e122
  generalize va_up v 66 (nI 0) = u1 at hv2 hm3 e_u1 e4 ⊢
  refine ST.lift (fun _ _ k => T_iload_n d_Mo_key_5 rfl k) ?_
  refine S_static (as := [.int (nI 2)]) (rest := []) d_Mo_key_6 rfl (jw_Mo_isSession.jo (by decide)) lm_Mo_545 jt_Mo_isSession rfl (Nat.le_of_ble_eq_true rfl) (by decide) (by decide) (c_Mo_isSession G u1 2 (by omega)) (fun r v' hq => ?_)
  rw [hq.1, hq.2]
  clear hq r v'
  show ST G mi_Mo_key 9 [(0, .ref 373), (1, .int (nI 2)), (2, .int (nI 0)), (3, .int (nI i))] [.int (nI 1)] u1 0 0 _
  refine S_if_eqN d_Mo_key_9 rfl (by omega) (fun c => by first | exact absurd c (by omega) | exact c.elim | exact absurd c (by decide) | exact absurd (by assumption) c | exact absurd c (by assumption) | exact absurd c (Int32.not_le.mpr (by assumption))) (fun _ => ?_)
  refine ST.lift (fun _ _ k => T_iload_n d_Mo_key_12 rfl k) ?_
  refine S_if_ltN d_Mo_key_13 rfl (by omega) (fun c => by first | exact absurd c (by omega) | exact c.elim | exact absurd c (by decide) | exact absurd (by assumption) c | exact absurd c (by assumption) | exact absurd c (Int32.not_le.mpr (by assumption))) (fun _ => ?_)
  refine ST.lift (fun _ _ k => T_iload_n d_Mo_key_16 rfl k) ?_
  refine ST.lift (fun _ _ k => T_bipush (v := nI 64) d_Mo_key_17 (by decide) k) ?_
  refine S_icmp_geN d_Mo_key_19 rfl (by omega) (by omega) (fun c => by first | exact absurd c (by omega) | exact c.elim | exact absurd c (by decide) | exact absurd (by assumption) c | exact absurd c (by assumption) | exact absurd c (Int32.not_le.mpr (by assumption))) (fun _ => ?_)
  refine ST.lift (fun _ _ k => T_iload_n d_Mo_key_22 rfl k) ?_
  refine S_if_ltN d_Mo_key_23 rfl (by omega) (fun c => by first | exact absurd c (by omega) | exact c.elim | exact absurd c (by decide) | exact absurd (by assumption) c | exact absurd c (by assumption) | exact absurd c (Int32.not_le.mpr (by assumption))) (fun _ => ?_)
  refine ST.lift (fun _ _ k => T_iload_n d_Mo_key_26 rfl k) ?_
  refine ST.lift (fun _ _ k => T_iconst (v := nI 3) d_Mo_key_27 (by decide) k) ?_
  refine S_icmp_geN d_Mo_key_28 rfl (by omega) (by omega) (fun c => by first | exact absurd c (by omega) | exact c.elim | exact absurd c (by decide) | exact absurd (by assumption) c | exact absurd c (by assumption) | exact absurd c (Int32.not_le.mpr (by assumption))) (fun _ => ?_)
  refine ST.lift (fun _ _ k => T_iconst (v := nI 1) d_Mo_key_31 (by decide) k) ?_
  refine ST.lift (fun _ _ k => T_goto (tgt := 36) d_Mo_key_32 rfl k) ?_
  refine ST.lift (fun _ _ k => T_istore (L' := [(4, .int (nI 1)), (0, .ref 373), (1, .int (nI 2)), (2, .int (nI 0)), (3, .int (nI i))]) d_Mo_key_36 (by decide) rfl k) ?_
  refine ST.lift (fun _ _ k => T_iload d_Mo_key_38 rfl k) ?_
  refine S_if_eqN d_Mo_key_40 rfl (by omega) (fun c => by first | exact absurd c (by omega) | exact c.elim | exact absurd c (by decide) | exact absurd (by assumption) c | exact absurd c (by assumption) | exact absurd c (Int32.not_le.mpr (by assumption))) (fun _ => ?_)
  refine ST.lift (fun _ _ k => T_iload_n d_Mo_key_43 rfl k) ?_
  refine ST.lift (fun _ _ k => T_iconst (v := nI 1) d_Mo_key_44 (by decide) k) ?_
  refine S_icmp_neN d_Mo_key_45 rfl (by omega) (by omega) (fun _ => ?_) (fun c => by first | exact absurd c (by omega) | exact c.elim | exact absurd c (by decide) | exact absurd (by assumption) c | exact absurd c (by assumption) | exact absurd c (Int32.not_le.mpr (by assumption)))
  refine ST.lift (fun _ _ k => T_iload d_Mo_key_59 rfl k) ?_
  refine S_if_eqN d_Mo_key_61 rfl (by omega) (fun c => by first | exact absurd c (by omega) | exact c.elim | exact absurd c (by decide) | exact absurd (by assumption) c | exact absurd c (by assumption) | exact absurd c (Int32.not_le.mpr (by assumption))) (fun _ => ?_)
  refine ST.lift (fun _ _ k => T_aload_n (v := .ref 373) d_Mo_key_64 rfl (Or.inr ⟨_, rfl⟩) k) ?_
  refine S_getfield d_Mo_key_65 fg_Mo_410 (w373 _) rfl ?_
  refine ST.lift (fun _ _ k => T_iload_n d_Mo_key_68 rfl k) ?_
  refine S_xload (t := 3) (k := 2) (Or.inr ⟨rfl, d_Mo_key_69⟩) rfl (w430 _) (by decide) (by decide) ?_
  refine S_topi (y := u1 122) rfl ?_
  refine S_topi (y := nI 0) (e4) ?_
  refine ST.lift (fun _ _ k => T_istore (L' := [(4, .int (nI 0)), (0, .ref 373), (1, .int (nI 2)), (2, .int (nI 0)), (3, .int (nI i))]) d_Mo_key_70 (by decide) rfl k) ?_
  refine ST.lift (fun _ _ k => T_iload d_Mo_key_72 rfl k) ?_
  refine S_if_neN d_Mo_key_74 rfl (by omega) (fun c => by first | exact absurd c (by omega) | exact c.elim | exact absurd c (by decide) | exact absurd (by assumption) c | exact absurd c (by assumption) | exact absurd c (Int32.not_le.mpr (by assumption))) (fun _ => ?_)
  refine ST.lift (fun _ _ k => T_aload_n (v := .ref 373) d_Mo_key_77 rfl (Or.inr ⟨_, rfl⟩) k) ?_
  refine ST.lift (fun _ _ k => T_iconst (v := nI 1) d_Mo_key_78 (by decide) k) ?_
  refine S_putfield (v' := va_up u1 66 (nI 1)) d_Mo_key_79 (fp_Mo_316 _) (w373 _) (Nat.le_of_ble_eq_true rfl) ⟨rfl, rfl⟩ (u373_0 _ _) ?_
  have hv6 := hv2.off (j := 66) (x := (nI 1)) (by decide)
  have hm7 := hm3.go (mdf.up (v := u1) (j := 66) (x := (nI 1))) (by intro i hi; simp only [List.mem_cons, List.not_mem_nil, or_false] at hi ⊢ <;> omega)
  have e_u5 : (va_up u1 66 (nI 1)) 66 = (nI 1) := by simp [va_up]
  have e8 : (va_up u1 66 (nI 1)) 122 = nI 0 := by simp only [va_up]; exact e4
  generalize va_up u1 66 (nI 1) = u5 at hv6 hm7 e_u5 e8 ⊢
  refine ST.lift (fun _ _ k => T_iconst (v := nI 0) d_Mo_key_82 (by decide) k) ?_
  refine S_topi (y := nI 0) (congrArg nI (by omega)) ?_
  exact S_ret d_Mo_key_83 rfl rfl (by decide) (by decide) (hQ _ hv6 hm7 (e_u5.trans (congrArg nI (by omega))))
set_option maxRecDepth 100000 in
set_option maxHeartbeats 4000000 in
theorem c_Mo_key_2_1 (G : GX) (v : Nat → Int32) (i : Nat) (b_i : i < 64) (hv : okv v) : CS G mi_Mo_key [.ref 373, .int (nI 2), .int (nI 1), .int (nI i)] v (fun r v' => ∃ z : Int32, r = some (.int z) ∧ okv v' ∧ mdf [66] v v') := by
  refine CS.of (by decide) (Nat.le_of_ble_eq_true rfl) ?_
  generalize hQe : (fun (r : Option Value) (v' : Nat → Int32) => ∃ z : Int32, r = some (.int z) ∧ okv v' ∧ mdf [66] v v') = Q
  have hQ : ∀ (z : Int32) (u : Nat → Int32), okv u → mdf [66] v u → Q (some (.int z)) u := by rw [← hQe]; exact fun z u h1 h2  => ⟨z, rfl, h1, h2⟩
  clear hQe
  have hm : mdf [66] v v := mdf.rf
  show ST G mi_Mo_key 0 [(0, .ref 373), (1, .int (nI 2)), (2, .int (nI 1)), (3, .int (nI i))] [] v 0 0 Q
  refine ST.lift (fun _ _ k => T_aload_n (v := .ref 373) d_Mo_key_0 rfl (Or.inr ⟨_, rfl⟩) k) ?_
  refine ST.lift (fun _ _ k => T_iconst (v := nI 0) d_Mo_key_1 (by decide) k) ?_
  refine S_putfield (v' := va_up v 66 (nI 0)) d_Mo_key_2 (fp_Mo_316 _) (w373 _) (Nat.le_of_ble_eq_true rfl) ⟨rfl, rfl⟩ (u373_0 _ _) ?_
  have hv2 := hv.off (j := 66) (x := (nI 0)) (by decide)
  have hm3 := hm.go (mdf.up (v := v) (j := 66) (x := (nI 0))) (by intro i hi; simp only [List.mem_cons, List.not_mem_nil, or_false] at hi ⊢ <;> omega)
  have e_u1 : (va_up v 66 (nI 0)) 66 = (nI 0) := by simp [va_up]
  generalize va_up v 66 (nI 0) = u1 at hv2 hm3 e_u1 ⊢
  refine ST.lift (fun _ _ k => T_iload_n d_Mo_key_5 rfl k) ?_
  refine S_static (as := [.int (nI 2)]) (rest := []) d_Mo_key_6 rfl (jw_Mo_isSession.jo (by decide)) lm_Mo_545 jt_Mo_isSession rfl (Nat.le_of_ble_eq_true rfl) (by decide) (by decide) (c_Mo_isSession G u1 2 (by omega)) (fun r v' hq => ?_)
  rw [hq.1, hq.2]
  clear hq r v'
  show ST G mi_Mo_key 9 [(0, .ref 373), (1, .int (nI 2)), (2, .int (nI 1)), (3, .int (nI i))] [.int (nI 1)] u1 0 0 _
  refine S_if_eqN d_Mo_key_9 rfl (by omega) (fun c => by first | exact absurd c (by omega) | exact c.elim | exact absurd c (by decide) | exact absurd (by assumption) c | exact absurd c (by assumption) | exact absurd c (Int32.not_le.mpr (by assumption))) (fun _ => ?_)
  refine ST.lift (fun _ _ k => T_iload_n d_Mo_key_12 rfl k) ?_
  refine S_if_ltN d_Mo_key_13 rfl (by omega) (fun c => by first | exact absurd c (by omega) | exact c.elim | exact absurd c (by decide) | exact absurd (by assumption) c | exact absurd c (by assumption) | exact absurd c (Int32.not_le.mpr (by assumption))) (fun _ => ?_)
  refine ST.lift (fun _ _ k => T_iload_n d_Mo_key_16 rfl k) ?_
  refine ST.lift (fun _ _ k => T_bipush (v := nI 64) d_Mo_key_17 (by decide) k) ?_
  have J36_6 : ∀ (z5 : Nat) (hz5 : z5 ≤ 1), ST G mi_Mo_key 36 [(0, .ref 373), (1, .int (nI 2)), (2, .int (nI 1)), (3, .int (nI i))] [.int (nI z5)] u1 0 0 Q := by
    intro z5 hz5
    refine ST.lift (fun _ _ k => T_istore (L' := [(4, .int (nI z5)), (0, .ref 373), (1, .int (nI 2)), (2, .int (nI 1)), (3, .int (nI i))]) d_Mo_key_36 (by decide) rfl k) ?_
    refine ST.lift (fun _ _ k => T_iload d_Mo_key_38 rfl k) ?_
    have J72_10 : ∀ (z9 : Int32), ST G mi_Mo_key 72 [(4, .int z9), (0, .ref 373), (1, .int (nI 2)), (2, .int (nI 1)), (3, .int (nI i))] [] u1 0 0 Q := by
      intro z9
      refine ST.lift (fun _ _ k => T_iload d_Mo_key_72 rfl k) ?_
      refine S_if_ne d_Mo_key_74 rfl (fun c11 => ?_) (fun c11 => ?_)
      · refine ST.lift (fun _ _ k => T_iload_n d_Mo_key_84 rfl k) ?_
        refine S_if_neN d_Mo_key_85 rfl (by omega) (fun _ => ?_) (fun c => by first | exact absurd c (by omega) | exact c.elim | exact absurd c (by decide) | exact absurd (by assumption) c | exact absurd c (by assumption) | exact absurd c (Int32.not_le.mpr (by assumption)))
        refine ST.lift (fun _ _ k => T_iload_n d_Mo_key_100 rfl k) ?_
        refine ST.lift (fun _ _ k => T_iconst (v := nI 1) d_Mo_key_101 (by decide) k) ?_
        refine S_icmp_neN d_Mo_key_102 rfl (by omega) (by omega) (fun c => by first | exact absurd c (by omega) | exact c.elim | exact absurd c (by decide) | exact absurd (by assumption) c | exact absurd c (by assumption) | exact absurd c (Int32.not_le.mpr (by assumption))) (fun _ => ?_)
        refine ST.lift (fun _ _ k => T_aload_n (v := .ref 373) d_Mo_key_105 rfl (Or.inr ⟨_, rfl⟩) k) ?_
        refine S_getfield d_Mo_key_106 fg_Mo_434 (w373 _) rfl ?_
        refine ST.lift (fun _ _ k => T_bipush (v := nI 64) d_Mo_key_109 (by decide) k) ?_
        refine ST.lift (fun _ _ k => T_iload_n d_Mo_key_111 rfl k) ?_
        refine S_imulN d_Mo_key_112 ?_
        refine S_topi (y := nI 128) (by decide) ?_
        refine ST.lift (fun _ _ k => T_iload_n d_Mo_key_113 rfl k) ?_
        refine S_iaddN d_Mo_key_114 ?_
        refine S_iaload d_Mo_key_115 a438 (vp_in_nI (by omega) (by omega)) (fun z12 => ?_)
        exact S_ret d_Mo_key_116 rfl rfl (by decide) (by decide) (hQ _ _ hv2 hm3)
      · refine ST.lift (fun _ _ k => T_aload_n (v := .ref 373) d_Mo_key_77 rfl (Or.inr ⟨_, rfl⟩) k) ?_
        refine ST.lift (fun _ _ k => T_iconst (v := nI 1) d_Mo_key_78 (by decide) k) ?_
        refine S_putfield (v' := va_up u1 66 (nI 1)) d_Mo_key_79 (fp_Mo_316 _) (w373 _) (Nat.le_of_ble_eq_true rfl) ⟨rfl, rfl⟩ (u373_0 _ _) ?_
        have hv14 := hv2.off (j := 66) (x := (nI 1)) (by decide)
        have hm15 := hm3.go (mdf.up (v := u1) (j := 66) (x := (nI 1))) (by intro i hi; simp only [List.mem_cons, List.not_mem_nil, or_false] at hi ⊢ <;> omega)
        have e_u13 : (va_up u1 66 (nI 1)) 66 = (nI 1) := by simp [va_up]
        generalize va_up u1 66 (nI 1) = u13 at hv14 hm15 e_u13 ⊢
        refine ST.lift (fun _ _ k => T_iconst (v := nI 0) d_Mo_key_82 (by decide) k) ?_
        exact S_ret d_Mo_key_83 rfl rfl (by decide) (by decide) (hQ _ _ hv14 hm15)
    refine S_if_eqN d_Mo_key_40 rfl (by omega) (fun c7 => ?_) (fun c7 => ?_)
    · refine ST.lift (fun _ _ k => T_iload d_Mo_key_59 rfl k) ?_
      refine S_if_eqN d_Mo_key_61 rfl (by omega) (fun c16 => ?_) (fun c16 => ?_)
      · exact J72_10 (nI z5)
      · refine ST.lift (fun _ _ k => T_aload_n (v := .ref 373) d_Mo_key_64 rfl (Or.inr ⟨_, rfl⟩) k) ?_
        refine S_getfield d_Mo_key_65 fg_Mo_410 (w373 _) rfl ?_
        refine ST.lift (fun _ _ k => T_iload_n d_Mo_key_68 rfl k) ?_
        refine S_xload (t := 3) (k := 2) (Or.inr ⟨rfl, d_Mo_key_69⟩) rfl (w430 _) (by decide) (by decide) ?_
        refine S_topi (y := u1 122) rfl ?_
        refine ST.lift (fun _ _ k => T_istore (L' := [(4, .int (u1 122)), (0, .ref 373), (1, .int (nI 2)), (2, .int (nI 1)), (3, .int (nI i))]) d_Mo_key_70 (by decide) rfl k) ?_
        exact J72_10 (u1 122)
    · refine ST.lift (fun _ _ k => T_iload_n d_Mo_key_43 rfl k) ?_
      refine ST.lift (fun _ _ k => T_iconst (v := nI 1) d_Mo_key_44 (by decide) k) ?_
      refine S_icmp_neN d_Mo_key_45 rfl (by omega) (by omega) (fun c => by first | exact absurd c (by omega) | exact c.elim | exact absurd c (by decide) | exact absurd (by assumption) c | exact absurd c (by assumption) | exact absurd c (Int32.not_le.mpr (by assumption))) (fun _ => ?_)
      refine ST.lift (fun _ _ k => T_aload_n (v := .ref 373) d_Mo_key_48 rfl (Or.inr ⟨_, rfl⟩) k) ?_
      refine S_getfield d_Mo_key_49 fg_Mo_413 (w373 _) rfl ?_
      refine ST.lift (fun _ _ k => T_iload_n d_Mo_key_52 rfl k) ?_
      refine S_xload (t := 3) (k := 2) (Or.inr ⟨rfl, d_Mo_key_53⟩) rfl (w431 _) (by decide) (by decide) ?_
      refine S_topi (y := u1 126) rfl ?_
      refine ST.lift (fun _ _ k => T_istore (L' := [(4, .int (u1 126)), (0, .ref 373), (1, .int (nI 2)), (2, .int (nI 1)), (3, .int (nI i))]) d_Mo_key_54 (by decide) rfl k) ?_
      refine ST.lift (fun _ _ k => T_goto (tgt := 72) d_Mo_key_56 rfl k) ?_
      exact J72_10 (u1 126)
  refine S_icmp_geN d_Mo_key_19 rfl (by omega) (by omega) (fun c4 => ?_) (fun c4 => ?_)
  · refine ST.lift (fun _ _ k => T_iconst (v := nI 0) d_Mo_key_35 (by decide) k) ?_
    exact J36_6 0 (by omega)
  · refine ST.lift (fun _ _ k => T_iload_n d_Mo_key_22 rfl k) ?_
    refine S_if_ltN d_Mo_key_23 rfl (by omega) (fun c => by first | exact absurd c (by omega) | exact c.elim | exact absurd c (by decide) | exact absurd (by assumption) c | exact absurd c (by assumption) | exact absurd c (Int32.not_le.mpr (by assumption))) (fun _ => ?_)
    refine ST.lift (fun _ _ k => T_iload_n d_Mo_key_26 rfl k) ?_
    refine ST.lift (fun _ _ k => T_iconst (v := nI 3) d_Mo_key_27 (by decide) k) ?_
    refine S_icmp_geN d_Mo_key_28 rfl (by omega) (by omega) (fun c => by first | exact absurd c (by omega) | exact c.elim | exact absurd c (by decide) | exact absurd (by assumption) c | exact absurd c (by assumption) | exact absurd c (Int32.not_le.mpr (by assumption))) (fun _ => ?_)
    refine ST.lift (fun _ _ k => T_iconst (v := nI 1) d_Mo_key_31 (by decide) k) ?_
    refine ST.lift (fun _ _ k => T_goto (tgt := 36) d_Mo_key_32 rfl k) ?_
    exact J36_6 1 (by omega)
set_option maxRecDepth 100000 in
set_option maxHeartbeats 4000000 in
theorem c_Mo_key_2_1_not (G : GX) (v : Nat → Int32) (i : Nat) (b_i : i < 64) (e126 : v 126 = nI 0) (hv : okv v) : CS G mi_Mo_key [.ref 373, .int (nI 2), .int (nI 1), .int (nI i)] v (fun r v' => r = some (.int (nI 0)) ∧ okv v' ∧ mdf [66] v v' ∧ v' 66 = nI 1) := by
  refine CS.of (by decide) (Nat.le_of_ble_eq_true rfl) ?_
  generalize hQe : (fun (r : Option Value) (v' : Nat → Int32) => r = some (.int (nI 0)) ∧ okv v' ∧ mdf [66] v v' ∧ v' 66 = nI 1) = Q
  have hQ : ∀ u, okv u → mdf [66] v u → u 66 = nI 1 → Q (some (.int (nI 0))) u := by rw [← hQe]; exact fun u h1 h2 f0 => ⟨rfl, h1, h2, f0⟩
  clear hQe
  have hm : mdf [66] v v := mdf.rf
  show ST G mi_Mo_key 0 [(0, .ref 373), (1, .int (nI 2)), (2, .int (nI 1)), (3, .int (nI i))] [] v 0 0 Q
  refine ST.lift (fun _ _ k => T_aload_n (v := .ref 373) d_Mo_key_0 rfl (Or.inr ⟨_, rfl⟩) k) ?_
  refine ST.lift (fun _ _ k => T_iconst (v := nI 0) d_Mo_key_1 (by decide) k) ?_
  refine S_putfield (v' := va_up v 66 (nI 0)) d_Mo_key_2 (fp_Mo_316 _) (w373 _) (Nat.le_of_ble_eq_true rfl) ⟨rfl, rfl⟩ (u373_0 _ _) ?_
  have hv2 := hv.off (j := 66) (x := (nI 0)) (by decide)
  have hm3 := hm.go (mdf.up (v := v) (j := 66) (x := (nI 0))) (by intro i hi; simp only [List.mem_cons, List.not_mem_nil, or_false] at hi ⊢ <;> omega)
  have e_u1 : (va_up v 66 (nI 0)) 66 = (nI 0) := by simp [va_up]
  have e4 : (va_up v 66 (nI 0)) 126 = nI 0 := by simp only [va_up]; exact e126
  generalize va_up v 66 (nI 0) = u1 at hv2 hm3 e_u1 e4 ⊢
  refine ST.lift (fun _ _ k => T_iload_n d_Mo_key_5 rfl k) ?_
  refine S_static (as := [.int (nI 2)]) (rest := []) d_Mo_key_6 rfl (jw_Mo_isSession.jo (by decide)) lm_Mo_545 jt_Mo_isSession rfl (Nat.le_of_ble_eq_true rfl) (by decide) (by decide) (c_Mo_isSession G u1 2 (by omega)) (fun r v' hq => ?_)
  rw [hq.1, hq.2]
  clear hq r v'
  show ST G mi_Mo_key 9 [(0, .ref 373), (1, .int (nI 2)), (2, .int (nI 1)), (3, .int (nI i))] [.int (nI 1)] u1 0 0 _
  refine S_if_eqN d_Mo_key_9 rfl (by omega) (fun c => by first | exact absurd c (by omega) | exact c.elim | exact absurd c (by decide) | exact absurd (by assumption) c | exact absurd c (by assumption) | exact absurd c (Int32.not_le.mpr (by assumption))) (fun _ => ?_)
  refine ST.lift (fun _ _ k => T_iload_n d_Mo_key_12 rfl k) ?_
  refine S_if_ltN d_Mo_key_13 rfl (by omega) (fun c => by first | exact absurd c (by omega) | exact c.elim | exact absurd c (by decide) | exact absurd (by assumption) c | exact absurd c (by assumption) | exact absurd c (Int32.not_le.mpr (by assumption))) (fun _ => ?_)
  refine ST.lift (fun _ _ k => T_iload_n d_Mo_key_16 rfl k) ?_
  refine ST.lift (fun _ _ k => T_bipush (v := nI 64) d_Mo_key_17 (by decide) k) ?_
  refine S_icmp_geN d_Mo_key_19 rfl (by omega) (by omega) (fun c => by first | exact absurd c (by omega) | exact c.elim | exact absurd c (by decide) | exact absurd (by assumption) c | exact absurd c (by assumption) | exact absurd c (Int32.not_le.mpr (by assumption))) (fun _ => ?_)
  refine ST.lift (fun _ _ k => T_iload_n d_Mo_key_22 rfl k) ?_
  refine S_if_ltN d_Mo_key_23 rfl (by omega) (fun c => by first | exact absurd c (by omega) | exact c.elim | exact absurd c (by decide) | exact absurd (by assumption) c | exact absurd c (by assumption) | exact absurd c (Int32.not_le.mpr (by assumption))) (fun _ => ?_)
  refine ST.lift (fun _ _ k => T_iload_n d_Mo_key_26 rfl k) ?_
  refine ST.lift (fun _ _ k => T_iconst (v := nI 3) d_Mo_key_27 (by decide) k) ?_
  refine S_icmp_geN d_Mo_key_28 rfl (by omega) (by omega) (fun c => by first | exact absurd c (by omega) | exact c.elim | exact absurd c (by decide) | exact absurd (by assumption) c | exact absurd c (by assumption) | exact absurd c (Int32.not_le.mpr (by assumption))) (fun _ => ?_)
  refine ST.lift (fun _ _ k => T_iconst (v := nI 1) d_Mo_key_31 (by decide) k) ?_
  refine ST.lift (fun _ _ k => T_goto (tgt := 36) d_Mo_key_32 rfl k) ?_
  refine ST.lift (fun _ _ k => T_istore (L' := [(4, .int (nI 1)), (0, .ref 373), (1, .int (nI 2)), (2, .int (nI 1)), (3, .int (nI i))]) d_Mo_key_36 (by decide) rfl k) ?_
  refine ST.lift (fun _ _ k => T_iload d_Mo_key_38 rfl k) ?_
  refine S_if_eqN d_Mo_key_40 rfl (by omega) (fun c => by first | exact absurd c (by omega) | exact c.elim | exact absurd c (by decide) | exact absurd (by assumption) c | exact absurd c (by assumption) | exact absurd c (Int32.not_le.mpr (by assumption))) (fun _ => ?_)
  refine ST.lift (fun _ _ k => T_iload_n d_Mo_key_43 rfl k) ?_
  refine ST.lift (fun _ _ k => T_iconst (v := nI 1) d_Mo_key_44 (by decide) k) ?_
  refine S_icmp_neN d_Mo_key_45 rfl (by omega) (by omega) (fun c => by first | exact absurd c (by omega) | exact c.elim | exact absurd c (by decide) | exact absurd (by assumption) c | exact absurd c (by assumption) | exact absurd c (Int32.not_le.mpr (by assumption))) (fun _ => ?_)
  refine ST.lift (fun _ _ k => T_aload_n (v := .ref 373) d_Mo_key_48 rfl (Or.inr ⟨_, rfl⟩) k) ?_
  refine S_getfield d_Mo_key_49 fg_Mo_413 (w373 _) rfl ?_
  refine ST.lift (fun _ _ k => T_iload_n d_Mo_key_52 rfl k) ?_
  refine S_xload (t := 3) (k := 2) (Or.inr ⟨rfl, d_Mo_key_53⟩) rfl (w431 _) (by decide) (by decide) ?_
  refine S_topi (y := u1 126) rfl ?_
  refine S_topi (y := nI 0) (e4) ?_
  refine ST.lift (fun _ _ k => T_istore (L' := [(4, .int (nI 0)), (0, .ref 373), (1, .int (nI 2)), (2, .int (nI 1)), (3, .int (nI i))]) d_Mo_key_54 (by decide) rfl k) ?_
  refine ST.lift (fun _ _ k => T_goto (tgt := 72) d_Mo_key_56 rfl k) ?_
  refine ST.lift (fun _ _ k => T_iload d_Mo_key_72 rfl k) ?_
  refine S_if_neN d_Mo_key_74 rfl (by omega) (fun c => by first | exact absurd c (by omega) | exact c.elim | exact absurd c (by decide) | exact absurd (by assumption) c | exact absurd c (by assumption) | exact absurd c (Int32.not_le.mpr (by assumption))) (fun _ => ?_)
  refine ST.lift (fun _ _ k => T_aload_n (v := .ref 373) d_Mo_key_77 rfl (Or.inr ⟨_, rfl⟩) k) ?_
  refine ST.lift (fun _ _ k => T_iconst (v := nI 1) d_Mo_key_78 (by decide) k) ?_
  refine S_putfield (v' := va_up u1 66 (nI 1)) d_Mo_key_79 (fp_Mo_316 _) (w373 _) (Nat.le_of_ble_eq_true rfl) ⟨rfl, rfl⟩ (u373_0 _ _) ?_
  have hv6 := hv2.off (j := 66) (x := (nI 1)) (by decide)
  have hm7 := hm3.go (mdf.up (v := u1) (j := 66) (x := (nI 1))) (by intro i hi; simp only [List.mem_cons, List.not_mem_nil, or_false] at hi ⊢ <;> omega)
  have e_u5 : (va_up u1 66 (nI 1)) 66 = (nI 1) := by simp [va_up]
  have e8 : (va_up u1 66 (nI 1)) 126 = nI 0 := by simp only [va_up]; exact e4
  generalize va_up u1 66 (nI 1) = u5 at hv6 hm7 e_u5 e8 ⊢
  refine ST.lift (fun _ _ k => T_iconst (v := nI 0) d_Mo_key_82 (by decide) k) ?_
  refine S_topi (y := nI 0) (congrArg nI (by omega)) ?_
  exact S_ret d_Mo_key_83 rfl rfl (by decide) (by decide) (hQ _ hv6 hm7 (e_u5.trans (congrArg nI (by omega))))
set_option maxRecDepth 100000 in
set_option maxHeartbeats 4000000 in
theorem c_Mo_key_2_2 (G : GX) (v : Nat → Int32) (i : Nat) (b_i : i < 64) (hv : okv v) : CS G mi_Mo_key [.ref 373, .int (nI 2), .int (nI 2), .int (nI i)] v (fun r v' => ∃ z : Int32, r = some (.int z) ∧ okv v' ∧ mdf [66] v v') := by
  refine CS.of (by decide) (Nat.le_of_ble_eq_true rfl) ?_
  generalize hQe : (fun (r : Option Value) (v' : Nat → Int32) => ∃ z : Int32, r = some (.int z) ∧ okv v' ∧ mdf [66] v v') = Q
  have hQ : ∀ (z : Int32) (u : Nat → Int32), okv u → mdf [66] v u → Q (some (.int z)) u := by rw [← hQe]; exact fun z u h1 h2  => ⟨z, rfl, h1, h2⟩
  clear hQe
  have hm : mdf [66] v v := mdf.rf
  show ST G mi_Mo_key 0 [(0, .ref 373), (1, .int (nI 2)), (2, .int (nI 2)), (3, .int (nI i))] [] v 0 0 Q
  refine ST.lift (fun _ _ k => T_aload_n (v := .ref 373) d_Mo_key_0 rfl (Or.inr ⟨_, rfl⟩) k) ?_
  refine ST.lift (fun _ _ k => T_iconst (v := nI 0) d_Mo_key_1 (by decide) k) ?_
  refine S_putfield (v' := va_up v 66 (nI 0)) d_Mo_key_2 (fp_Mo_316 _) (w373 _) (Nat.le_of_ble_eq_true rfl) ⟨rfl, rfl⟩ (u373_0 _ _) ?_
  have hv2 := hv.off (j := 66) (x := (nI 0)) (by decide)
  have hm3 := hm.go (mdf.up (v := v) (j := 66) (x := (nI 0))) (by intro i hi; simp only [List.mem_cons, List.not_mem_nil, or_false] at hi ⊢ <;> omega)
  have e_u1 : (va_up v 66 (nI 0)) 66 = (nI 0) := by simp [va_up]
  generalize va_up v 66 (nI 0) = u1 at hv2 hm3 e_u1 ⊢
  refine ST.lift (fun _ _ k => T_iload_n d_Mo_key_5 rfl k) ?_
  refine S_static (as := [.int (nI 2)]) (rest := []) d_Mo_key_6 rfl (jw_Mo_isSession.jo (by decide)) lm_Mo_545 jt_Mo_isSession rfl (Nat.le_of_ble_eq_true rfl) (by decide) (by decide) (c_Mo_isSession G u1 2 (by omega)) (fun r v' hq => ?_)
  rw [hq.1, hq.2]
  clear hq r v'
  show ST G mi_Mo_key 9 [(0, .ref 373), (1, .int (nI 2)), (2, .int (nI 2)), (3, .int (nI i))] [.int (nI 1)] u1 0 0 _
  refine S_if_eqN d_Mo_key_9 rfl (by omega) (fun c => by first | exact absurd c (by omega) | exact c.elim | exact absurd c (by decide) | exact absurd (by assumption) c | exact absurd c (by assumption) | exact absurd c (Int32.not_le.mpr (by assumption))) (fun _ => ?_)
  refine ST.lift (fun _ _ k => T_iload_n d_Mo_key_12 rfl k) ?_
  refine S_if_ltN d_Mo_key_13 rfl (by omega) (fun c => by first | exact absurd c (by omega) | exact c.elim | exact absurd c (by decide) | exact absurd (by assumption) c | exact absurd c (by assumption) | exact absurd c (Int32.not_le.mpr (by assumption))) (fun _ => ?_)
  refine ST.lift (fun _ _ k => T_iload_n d_Mo_key_16 rfl k) ?_
  refine ST.lift (fun _ _ k => T_bipush (v := nI 64) d_Mo_key_17 (by decide) k) ?_
  have J36_6 : ∀ (z5 : Nat) (hz5 : z5 ≤ 1), ST G mi_Mo_key 36 [(0, .ref 373), (1, .int (nI 2)), (2, .int (nI 2)), (3, .int (nI i))] [.int (nI z5)] u1 0 0 Q := by
    intro z5 hz5
    refine ST.lift (fun _ _ k => T_istore (L' := [(4, .int (nI z5)), (0, .ref 373), (1, .int (nI 2)), (2, .int (nI 2)), (3, .int (nI i))]) d_Mo_key_36 (by decide) rfl k) ?_
    refine ST.lift (fun _ _ k => T_iload d_Mo_key_38 rfl k) ?_
    have J72_11 : ∀ (z10 : Int32), ST G mi_Mo_key 72 [(4, .int z10), (0, .ref 373), (1, .int (nI 2)), (2, .int (nI 2)), (3, .int (nI i))] [] u1 0 0 Q := by
      intro z10
      refine ST.lift (fun _ _ k => T_iload d_Mo_key_72 rfl k) ?_
      refine S_if_ne d_Mo_key_74 rfl (fun c12 => ?_) (fun c12 => ?_)
      · refine ST.lift (fun _ _ k => T_iload_n d_Mo_key_84 rfl k) ?_
        refine S_if_neN d_Mo_key_85 rfl (by omega) (fun _ => ?_) (fun c => by first | exact absurd c (by omega) | exact c.elim | exact absurd c (by decide) | exact absurd (by assumption) c | exact absurd c (by assumption) | exact absurd c (Int32.not_le.mpr (by assumption)))
        refine ST.lift (fun _ _ k => T_iload_n d_Mo_key_100 rfl k) ?_
        refine ST.lift (fun _ _ k => T_iconst (v := nI 1) d_Mo_key_101 (by decide) k) ?_
        refine S_icmp_neN d_Mo_key_102 rfl (by omega) (by omega) (fun _ => ?_) (fun c => by first | exact absurd c (by omega) | exact c.elim | exact absurd c (by decide) | exact absurd (by assumption) c | exact absurd c (by assumption) | exact absurd c (Int32.not_le.mpr (by assumption)))
        refine ST.lift (fun _ _ k => T_aload_n (v := .ref 373) d_Mo_key_117 rfl (Or.inr ⟨_, rfl⟩) k) ?_
        refine S_getfield d_Mo_key_118 fg_Mo_437 (w373 _) rfl ?_
        refine ST.lift (fun _ _ k => T_bipush (v := nI 64) d_Mo_key_121 (by decide) k) ?_
        refine ST.lift (fun _ _ k => T_iload_n d_Mo_key_123 rfl k) ?_
        refine S_imulN d_Mo_key_124 ?_
        refine S_topi (y := nI 128) (by decide) ?_
        refine ST.lift (fun _ _ k => T_iload_n d_Mo_key_125 rfl k) ?_
        refine S_iaddN d_Mo_key_126 ?_
        refine S_iaload d_Mo_key_127 a439 (vp_in_nI (by omega) (by omega)) (fun z13 => ?_)
        exact S_ret d_Mo_key_128 rfl rfl (by decide) (by decide) (hQ _ _ hv2 hm3)
      · refine ST.lift (fun _ _ k => T_aload_n (v := .ref 373) d_Mo_key_77 rfl (Or.inr ⟨_, rfl⟩) k) ?_
        refine ST.lift (fun _ _ k => T_iconst (v := nI 1) d_Mo_key_78 (by decide) k) ?_
        refine S_putfield (v' := va_up u1 66 (nI 1)) d_Mo_key_79 (fp_Mo_316 _) (w373 _) (Nat.le_of_ble_eq_true rfl) ⟨rfl, rfl⟩ (u373_0 _ _) ?_
        have hv15 := hv2.off (j := 66) (x := (nI 1)) (by decide)
        have hm16 := hm3.go (mdf.up (v := u1) (j := 66) (x := (nI 1))) (by intro i hi; simp only [List.mem_cons, List.not_mem_nil, or_false] at hi ⊢ <;> omega)
        have e_u14 : (va_up u1 66 (nI 1)) 66 = (nI 1) := by simp [va_up]
        generalize va_up u1 66 (nI 1) = u14 at hv15 hm16 e_u14 ⊢
        refine ST.lift (fun _ _ k => T_iconst (v := nI 0) d_Mo_key_82 (by decide) k) ?_
        exact S_ret d_Mo_key_83 rfl rfl (by decide) (by decide) (hQ _ _ hv15 hm16)
    refine S_if_eqN d_Mo_key_40 rfl (by omega) (fun c7 => ?_) (fun c7 => ?_)
    · refine ST.lift (fun _ _ k => T_iload d_Mo_key_59 rfl k) ?_
      refine S_if_eqN d_Mo_key_61 rfl (by omega) (fun c17 => ?_) (fun c17 => ?_)
      · exact J72_11 (nI z5)
      · refine ST.lift (fun _ _ k => T_aload_n (v := .ref 373) d_Mo_key_64 rfl (Or.inr ⟨_, rfl⟩) k) ?_
        refine S_getfield d_Mo_key_65 fg_Mo_410 (w373 _) rfl ?_
        refine ST.lift (fun _ _ k => T_iload_n d_Mo_key_68 rfl k) ?_
        refine S_xload (t := 3) (k := 2) (Or.inr ⟨rfl, d_Mo_key_69⟩) rfl (w430 _) (by decide) (by decide) ?_
        refine S_topi (y := u1 122) rfl ?_
        refine ST.lift (fun _ _ k => T_istore (L' := [(4, .int (u1 122)), (0, .ref 373), (1, .int (nI 2)), (2, .int (nI 2)), (3, .int (nI i))]) d_Mo_key_70 (by decide) rfl k) ?_
        exact J72_11 (u1 122)
    · refine ST.lift (fun _ _ k => T_iload_n d_Mo_key_43 rfl k) ?_
      refine ST.lift (fun _ _ k => T_iconst (v := nI 1) d_Mo_key_44 (by decide) k) ?_
      refine S_icmp_neN d_Mo_key_45 rfl (by omega) (by omega) (fun _ => ?_) (fun c => by first | exact absurd c (by omega) | exact c.elim | exact absurd c (by decide) | exact absurd (by assumption) c | exact absurd c (by assumption) | exact absurd c (Int32.not_le.mpr (by assumption)))
      refine ST.lift (fun _ _ k => T_iload d_Mo_key_59 rfl k) ?_
      refine S_if_eqN d_Mo_key_61 rfl (by omega) (fun c18 => ?_) (fun c18 => ?_)
      · exact J72_11 (nI z5)
      · refine ST.lift (fun _ _ k => T_aload_n (v := .ref 373) d_Mo_key_64 rfl (Or.inr ⟨_, rfl⟩) k) ?_
        refine S_getfield d_Mo_key_65 fg_Mo_410 (w373 _) rfl ?_
        refine ST.lift (fun _ _ k => T_iload_n d_Mo_key_68 rfl k) ?_
        refine S_xload (t := 3) (k := 2) (Or.inr ⟨rfl, d_Mo_key_69⟩) rfl (w430 _) (by decide) (by decide) ?_
        refine S_topi (y := u1 122) rfl ?_
        refine ST.lift (fun _ _ k => T_istore (L' := [(4, .int (u1 122)), (0, .ref 373), (1, .int (nI 2)), (2, .int (nI 2)), (3, .int (nI i))]) d_Mo_key_70 (by decide) rfl k) ?_
        exact J72_11 (u1 122)
  refine S_icmp_geN d_Mo_key_19 rfl (by omega) (by omega) (fun c4 => ?_) (fun c4 => ?_)
  · refine ST.lift (fun _ _ k => T_iconst (v := nI 0) d_Mo_key_35 (by decide) k) ?_
    exact J36_6 0 (by omega)
  · refine ST.lift (fun _ _ k => T_iload_n d_Mo_key_22 rfl k) ?_
    refine S_if_ltN d_Mo_key_23 rfl (by omega) (fun c => by first | exact absurd c (by omega) | exact c.elim | exact absurd c (by decide) | exact absurd (by assumption) c | exact absurd c (by assumption) | exact absurd c (Int32.not_le.mpr (by assumption))) (fun _ => ?_)
    refine ST.lift (fun _ _ k => T_iload_n d_Mo_key_26 rfl k) ?_
    refine ST.lift (fun _ _ k => T_iconst (v := nI 3) d_Mo_key_27 (by decide) k) ?_
    refine S_icmp_geN d_Mo_key_28 rfl (by omega) (by omega) (fun c => by first | exact absurd c (by omega) | exact c.elim | exact absurd c (by decide) | exact absurd (by assumption) c | exact absurd c (by assumption) | exact absurd c (Int32.not_le.mpr (by assumption))) (fun _ => ?_)
    refine ST.lift (fun _ _ k => T_iconst (v := nI 1) d_Mo_key_31 (by decide) k) ?_
    refine ST.lift (fun _ _ k => T_goto (tgt := 36) d_Mo_key_32 rfl k) ?_
    exact J36_6 1 (by omega)
set_option maxRecDepth 100000 in
set_option maxHeartbeats 4000000 in
theorem c_Mo_key_2_2_not (G : GX) (v : Nat → Int32) (i : Nat) (b_i : i < 64) (e122 : v 122 = nI 0) (hv : okv v) : CS G mi_Mo_key [.ref 373, .int (nI 2), .int (nI 2), .int (nI i)] v (fun r v' => r = some (.int (nI 0)) ∧ okv v' ∧ mdf [66] v v' ∧ v' 66 = nI 1) := by
  refine CS.of (by decide) (Nat.le_of_ble_eq_true rfl) ?_
  generalize hQe : (fun (r : Option Value) (v' : Nat → Int32) => r = some (.int (nI 0)) ∧ okv v' ∧ mdf [66] v v' ∧ v' 66 = nI 1) = Q
  have hQ : ∀ u, okv u → mdf [66] v u → u 66 = nI 1 → Q (some (.int (nI 0))) u := by rw [← hQe]; exact fun u h1 h2 f0 => ⟨rfl, h1, h2, f0⟩
  clear hQe
  have hm : mdf [66] v v := mdf.rf
  show ST G mi_Mo_key 0 [(0, .ref 373), (1, .int (nI 2)), (2, .int (nI 2)), (3, .int (nI i))] [] v 0 0 Q
  refine ST.lift (fun _ _ k => T_aload_n (v := .ref 373) d_Mo_key_0 rfl (Or.inr ⟨_, rfl⟩) k) ?_
  refine ST.lift (fun _ _ k => T_iconst (v := nI 0) d_Mo_key_1 (by decide) k) ?_
  refine S_putfield (v' := va_up v 66 (nI 0)) d_Mo_key_2 (fp_Mo_316 _) (w373 _) (Nat.le_of_ble_eq_true rfl) ⟨rfl, rfl⟩ (u373_0 _ _) ?_
  have hv2 := hv.off (j := 66) (x := (nI 0)) (by decide)
  have hm3 := hm.go (mdf.up (v := v) (j := 66) (x := (nI 0))) (by intro i hi; simp only [List.mem_cons, List.not_mem_nil, or_false] at hi ⊢ <;> omega)
  have e_u1 : (va_up v 66 (nI 0)) 66 = (nI 0) := by simp [va_up]
  have e4 : (va_up v 66 (nI 0)) 122 = nI 0 := by simp only [va_up]; exact e122
  generalize va_up v 66 (nI 0) = u1 at hv2 hm3 e_u1 e4 ⊢
  refine ST.lift (fun _ _ k => T_iload_n d_Mo_key_5 rfl k) ?_
  refine S_static (as := [.int (nI 2)]) (rest := []) d_Mo_key_6 rfl (jw_Mo_isSession.jo (by decide)) lm_Mo_545 jt_Mo_isSession rfl (Nat.le_of_ble_eq_true rfl) (by decide) (by decide) (c_Mo_isSession G u1 2 (by omega)) (fun r v' hq => ?_)
  rw [hq.1, hq.2]
  clear hq r v'
  show ST G mi_Mo_key 9 [(0, .ref 373), (1, .int (nI 2)), (2, .int (nI 2)), (3, .int (nI i))] [.int (nI 1)] u1 0 0 _
  refine S_if_eqN d_Mo_key_9 rfl (by omega) (fun c => by first | exact absurd c (by omega) | exact c.elim | exact absurd c (by decide) | exact absurd (by assumption) c | exact absurd c (by assumption) | exact absurd c (Int32.not_le.mpr (by assumption))) (fun _ => ?_)
  refine ST.lift (fun _ _ k => T_iload_n d_Mo_key_12 rfl k) ?_
  refine S_if_ltN d_Mo_key_13 rfl (by omega) (fun c => by first | exact absurd c (by omega) | exact c.elim | exact absurd c (by decide) | exact absurd (by assumption) c | exact absurd c (by assumption) | exact absurd c (Int32.not_le.mpr (by assumption))) (fun _ => ?_)
  refine ST.lift (fun _ _ k => T_iload_n d_Mo_key_16 rfl k) ?_
  refine ST.lift (fun _ _ k => T_bipush (v := nI 64) d_Mo_key_17 (by decide) k) ?_
  refine S_icmp_geN d_Mo_key_19 rfl (by omega) (by omega) (fun c => by first | exact absurd c (by omega) | exact c.elim | exact absurd c (by decide) | exact absurd (by assumption) c | exact absurd c (by assumption) | exact absurd c (Int32.not_le.mpr (by assumption))) (fun _ => ?_)
  refine ST.lift (fun _ _ k => T_iload_n d_Mo_key_22 rfl k) ?_
  refine S_if_ltN d_Mo_key_23 rfl (by omega) (fun c => by first | exact absurd c (by omega) | exact c.elim | exact absurd c (by decide) | exact absurd (by assumption) c | exact absurd c (by assumption) | exact absurd c (Int32.not_le.mpr (by assumption))) (fun _ => ?_)
  refine ST.lift (fun _ _ k => T_iload_n d_Mo_key_26 rfl k) ?_
  refine ST.lift (fun _ _ k => T_iconst (v := nI 3) d_Mo_key_27 (by decide) k) ?_
  refine S_icmp_geN d_Mo_key_28 rfl (by omega) (by omega) (fun c => by first | exact absurd c (by omega) | exact c.elim | exact absurd c (by decide) | exact absurd (by assumption) c | exact absurd c (by assumption) | exact absurd c (Int32.not_le.mpr (by assumption))) (fun _ => ?_)
  refine ST.lift (fun _ _ k => T_iconst (v := nI 1) d_Mo_key_31 (by decide) k) ?_
  refine ST.lift (fun _ _ k => T_goto (tgt := 36) d_Mo_key_32 rfl k) ?_
  refine ST.lift (fun _ _ k => T_istore (L' := [(4, .int (nI 1)), (0, .ref 373), (1, .int (nI 2)), (2, .int (nI 2)), (3, .int (nI i))]) d_Mo_key_36 (by decide) rfl k) ?_
  refine ST.lift (fun _ _ k => T_iload d_Mo_key_38 rfl k) ?_
  refine S_if_eqN d_Mo_key_40 rfl (by omega) (fun c => by first | exact absurd c (by omega) | exact c.elim | exact absurd c (by decide) | exact absurd (by assumption) c | exact absurd c (by assumption) | exact absurd c (Int32.not_le.mpr (by assumption))) (fun _ => ?_)
  refine ST.lift (fun _ _ k => T_iload_n d_Mo_key_43 rfl k) ?_
  refine ST.lift (fun _ _ k => T_iconst (v := nI 1) d_Mo_key_44 (by decide) k) ?_
  refine S_icmp_neN d_Mo_key_45 rfl (by omega) (by omega) (fun _ => ?_) (fun c => by first | exact absurd c (by omega) | exact c.elim | exact absurd c (by decide) | exact absurd (by assumption) c | exact absurd c (by assumption) | exact absurd c (Int32.not_le.mpr (by assumption)))
  refine ST.lift (fun _ _ k => T_iload d_Mo_key_59 rfl k) ?_
  refine S_if_eqN d_Mo_key_61 rfl (by omega) (fun c => by first | exact absurd c (by omega) | exact c.elim | exact absurd c (by decide) | exact absurd (by assumption) c | exact absurd c (by assumption) | exact absurd c (Int32.not_le.mpr (by assumption))) (fun _ => ?_)
  refine ST.lift (fun _ _ k => T_aload_n (v := .ref 373) d_Mo_key_64 rfl (Or.inr ⟨_, rfl⟩) k) ?_
  refine S_getfield d_Mo_key_65 fg_Mo_410 (w373 _) rfl ?_
  refine ST.lift (fun _ _ k => T_iload_n d_Mo_key_68 rfl k) ?_
  refine S_xload (t := 3) (k := 2) (Or.inr ⟨rfl, d_Mo_key_69⟩) rfl (w430 _) (by decide) (by decide) ?_
  refine S_topi (y := u1 122) rfl ?_
  refine S_topi (y := nI 0) (e4) ?_
  refine ST.lift (fun _ _ k => T_istore (L' := [(4, .int (nI 0)), (0, .ref 373), (1, .int (nI 2)), (2, .int (nI 2)), (3, .int (nI i))]) d_Mo_key_70 (by decide) rfl k) ?_
  refine ST.lift (fun _ _ k => T_iload d_Mo_key_72 rfl k) ?_
  refine S_if_neN d_Mo_key_74 rfl (by omega) (fun c => by first | exact absurd c (by omega) | exact c.elim | exact absurd c (by decide) | exact absurd (by assumption) c | exact absurd c (by assumption) | exact absurd c (Int32.not_le.mpr (by assumption))) (fun _ => ?_)
  refine ST.lift (fun _ _ k => T_aload_n (v := .ref 373) d_Mo_key_77 rfl (Or.inr ⟨_, rfl⟩) k) ?_
  refine ST.lift (fun _ _ k => T_iconst (v := nI 1) d_Mo_key_78 (by decide) k) ?_
  refine S_putfield (v' := va_up u1 66 (nI 1)) d_Mo_key_79 (fp_Mo_316 _) (w373 _) (Nat.le_of_ble_eq_true rfl) ⟨rfl, rfl⟩ (u373_0 _ _) ?_
  have hv6 := hv2.off (j := 66) (x := (nI 1)) (by decide)
  have hm7 := hm3.go (mdf.up (v := u1) (j := 66) (x := (nI 1))) (by intro i hi; simp only [List.mem_cons, List.not_mem_nil, or_false] at hi ⊢ <;> omega)
  have e_u5 : (va_up u1 66 (nI 1)) 66 = (nI 1) := by simp [va_up]
  have e8 : (va_up u1 66 (nI 1)) 122 = nI 0 := by simp only [va_up]; exact e4
  generalize va_up u1 66 (nI 1) = u5 at hv6 hm7 e_u5 e8 ⊢
  refine ST.lift (fun _ _ k => T_iconst (v := nI 0) d_Mo_key_82 (by decide) k) ?_
  refine S_topi (y := nI 0) (congrArg nI (by omega)) ?_
  exact S_ret d_Mo_key_83 rfl rfl (by decide) (by decide) (hQ _ hv6 hm7 (e_u5.trans (congrArg nI (by omega))))
set_option maxRecDepth 100000 in
set_option maxHeartbeats 4000000 in
theorem c_Mo_isWire_3_neg (G : GX) (v : Nat → Int32) (y : Int32) (z : Int32) (hz_n : z < 0) (hv : okv v) : CS G mi_Mo_isWire [.ref 373, .int (nI 3), .int y, .int z] v (fun r v' => r = some (.int (nI 0)) ∧ okv v' ∧ mdf [] v v') := by
  refine CS.of (by decide) (Nat.le_of_ble_eq_true rfl) ?_
  generalize hQe : (fun (r : Option Value) (v' : Nat → Int32) => r = some (.int (nI 0)) ∧ okv v' ∧ mdf [] v v') = Q
  have hQ : ∀ u, okv u → mdf [] v u → Q (some (.int (nI 0))) u := by rw [← hQe]; exact fun u h1 h2  => ⟨rfl, h1, h2⟩
  clear hQe
  have hm : mdf [] v v := mdf.rf
  show ST G mi_Mo_isWire 0 [(0, .ref 373), (1, .int (nI 3)), (2, .int y), (3, .int z)] [] v 0 0 Q
  refine ST.lift (fun _ _ k => T_iload_n d_Mo_isWire_0 rfl k) ?_
  refine S_static (as := [.int (nI 3)]) (rest := []) d_Mo_isWire_1 rfl (jw_Mo_isSession.jo (by decide)) lm_Mo_545 jt_Mo_isSession rfl (Nat.le_of_ble_eq_true rfl) (by decide) (by decide) (c_Mo_isSession G v 3 (by omega)) (fun r v' hq => ?_)
  rw [hq.1, hq.2]
  clear hq r v'
  show ST G mi_Mo_isWire 4 [(0, .ref 373), (1, .int (nI 3)), (2, .int y), (3, .int z)] [.int (nI 1)] v 0 0 _
  refine S_if_eqN d_Mo_isWire_4 rfl (by omega) (fun c => by first | exact absurd c (by omega) | exact c.elim | exact absurd c (by decide) | exact absurd (by assumption) c | exact absurd c (by assumption) | exact absurd c (Int32.not_le.mpr (by assumption))) (fun _ => ?_)
  refine ST.lift (fun _ _ k => T_iload_n d_Mo_isWire_7 rfl k) ?_
  refine S_if_ge d_Mo_isWire_8 rfl (fun c => by first | exact absurd c (by omega) | exact c.elim | exact absurd c (by decide) | exact absurd (by assumption) c | exact absurd c (by assumption) | exact absurd c (Int32.not_le.mpr (by assumption))) (fun _ => ?_)
  refine ST.lift (fun _ _ k => T_iconst (v := nI 0) d_Mo_isWire_11 (by decide) k) ?_
  refine S_topi (y := nI 0) (congrArg nI (by omega)) ?_
  exact S_ret d_Mo_isWire_12 rfl (nar_z (by omega)) (by decide) (by decide) (hQ _ hv hm)
set_option maxRecDepth 100000 in
set_option maxHeartbeats 4000000 in
theorem c_Mo_wire_3_neg (G : GX) (v : Nat → Int32) (y : Int32) (z : Int32) (hz_n : z < 0) (hv : okv v) : CS G mi_Mo_wire [.ref 373, .int (nI 3), .int y, .int z] v (fun r v' => r = some (.int (nI 0)) ∧ okv v' ∧ mdf [66] v v' ∧ v' 66 = nI 1) := by
  refine CS.of (by decide) (Nat.le_of_ble_eq_true rfl) ?_
  generalize hQe : (fun (r : Option Value) (v' : Nat → Int32) => r = some (.int (nI 0)) ∧ okv v' ∧ mdf [66] v v' ∧ v' 66 = nI 1) = Q
  have hQ : ∀ u, okv u → mdf [66] v u → u 66 = nI 1 → Q (some (.int (nI 0))) u := by rw [← hQe]; exact fun u h1 h2 f0 => ⟨rfl, h1, h2, f0⟩
  clear hQe
  have hm : mdf [66] v v := mdf.rf
  show ST G mi_Mo_wire 0 [(0, .ref 373), (1, .int (nI 3)), (2, .int y), (3, .int z)] [] v 0 0 Q
  refine ST.lift (fun _ _ k => T_aload_n (v := .ref 373) d_Mo_wire_0 rfl (Or.inr ⟨_, rfl⟩) k) ?_
  refine ST.lift (fun _ _ k => T_iconst (v := nI 0) d_Mo_wire_1 (by decide) k) ?_
  refine S_putfield (v' := va_up v 66 (nI 0)) d_Mo_wire_2 (fp_Mo_316 _) (w373 _) (Nat.le_of_ble_eq_true rfl) ⟨rfl, rfl⟩ (u373_0 _ _) ?_
  have hv2 := hv.off (j := 66) (x := (nI 0)) (by decide)
  have hm3 := hm.go (mdf.up (v := v) (j := 66) (x := (nI 0))) (by intro i hi; simp only [List.mem_cons, List.not_mem_nil, or_false] at hi ⊢ <;> omega)
  have e_u1 : (va_up v 66 (nI 0)) 66 = (nI 0) := by simp [va_up]
  generalize va_up v 66 (nI 0) = u1 at hv2 hm3 e_u1 ⊢
  refine ST.lift (fun _ _ k => T_aload_n (v := .ref 373) d_Mo_wire_5 rfl (Or.inr ⟨_, rfl⟩) k) ?_
  refine ST.lift (fun _ _ k => T_iload_n d_Mo_wire_6 rfl k) ?_
  refine ST.lift (fun _ _ k => T_iload_n d_Mo_wire_7 rfl k) ?_
  refine ST.lift (fun _ _ k => T_iload_n d_Mo_wire_8 rfl k) ?_
  refine S_virtual (as := [.int (nI 3), .int y, .int z]) (rest := []) (b := 373) d_Mo_wire_9 rfl (jw_Mo_isWire.jo (by decide)) lm_Mo_595 ji_Mo_isWire js_Mo_isWire (w373 _) rfl rfl rfl (Nat.le_of_ble_eq_true rfl) (by decide) (by decide) (c_Mo_isWire_3_neg G u1 y z hz_n hv2) (fun r u4 hq => ?_)
  obtain ⟨hr, hv5, hm6⟩ := hq
  rw [hr]
  clear hr r
  have hm7 := hm3.go hm6 (by intro i hi; simp only [List.mem_cons, List.not_mem_nil, or_false] at hi ⊢ <;> omega)
  have e8 : u4 66 = nI 0 := (hm6 66 (by decide)).trans e_u1
  show ST G mi_Mo_wire 12 [(0, .ref 373), (1, .int (nI 3)), (2, .int y), (3, .int z)] [.int (nI 0)] u4 0 0 _
  refine S_if_neN d_Mo_wire_12 rfl (by omega) (fun c => by first | exact absurd c (by omega) | exact c.elim | exact absurd c (by decide) | exact absurd (by assumption) c | exact absurd c (by assumption) | exact absurd c (Int32.not_le.mpr (by assumption))) (fun _ => ?_)
  refine ST.lift (fun _ _ k => T_aload_n (v := .ref 373) d_Mo_wire_15 rfl (Or.inr ⟨_, rfl⟩) k) ?_
  refine ST.lift (fun _ _ k => T_iconst (v := nI 1) d_Mo_wire_16 (by decide) k) ?_
  refine S_putfield (v' := va_up u4 66 (nI 1)) d_Mo_wire_17 (fp_Mo_316 _) (w373 _) (Nat.le_of_ble_eq_true rfl) ⟨rfl, rfl⟩ (u373_0 _ _) ?_
  have hv10 := hv5.off (j := 66) (x := (nI 1)) (by decide)
  have hm11 := hm7.go (mdf.up (v := u4) (j := 66) (x := (nI 1))) (by intro i hi; simp only [List.mem_cons, List.not_mem_nil, or_false] at hi ⊢ <;> omega)
  have e_u9 : (va_up u4 66 (nI 1)) 66 = (nI 1) := by simp [va_up]
  generalize va_up u4 66 (nI 1) = u9 at hv10 hm11 e_u9 ⊢
  refine ST.lift (fun _ _ k => T_iconst (v := nI 0) d_Mo_wire_20 (by decide) k) ?_
  refine S_topi (y := nI 0) (congrArg nI (by omega)) ?_
  exact S_ret d_Mo_wire_21 rfl rfl (by decide) (by decide) (hQ _ hv10 hm11 (e_u9.trans (congrArg nI (by omega))))
set_option maxRecDepth 100000 in
set_option maxHeartbeats 4000000 in
theorem c_Mo_tamper_3_neg (G : GX) (v : Nat → Int32) (y : Int32) (z : Int32) (mask : Int32) (hz_n : z < 0) (hv : okv v) : CS G mi_Mo_tamper [.ref 373, .int (nI 3), .int y, .int z, .int mask] v (fun r v' => r = some (.int (nI 0)) ∧ okv v' ∧ mdf [66] v v' ∧ v' 66 = nI 0) := by
  refine CS.of (by decide) (Nat.le_of_ble_eq_true rfl) ?_
  generalize hQe : (fun (r : Option Value) (v' : Nat → Int32) => r = some (.int (nI 0)) ∧ okv v' ∧ mdf [66] v v' ∧ v' 66 = nI 0) = Q
  have hQ : ∀ u, okv u → mdf [66] v u → u 66 = nI 0 → Q (some (.int (nI 0))) u := by rw [← hQe]; exact fun u h1 h2 f0 => ⟨rfl, h1, h2, f0⟩
  clear hQe
  have hm : mdf [66] v v := mdf.rf
  show ST G mi_Mo_tamper 0 [(0, .ref 373), (1, .int (nI 3)), (2, .int y), (3, .int z), (4, .int mask)] [] v 0 0 Q
  refine ST.lift (fun _ _ k => T_aload_n (v := .ref 373) d_Mo_tamper_0 rfl (Or.inr ⟨_, rfl⟩) k) ?_
  refine ST.lift (fun _ _ k => T_iconst (v := nI 0) d_Mo_tamper_1 (by decide) k) ?_
  refine S_putfield (v' := va_up v 66 (nI 0)) d_Mo_tamper_2 (fp_Mo_316 _) (w373 _) (Nat.le_of_ble_eq_true rfl) ⟨rfl, rfl⟩ (u373_0 _ _) ?_
  have hv2 := hv.off (j := 66) (x := (nI 0)) (by decide)
  have hm3 := hm.go (mdf.up (v := v) (j := 66) (x := (nI 0))) (by intro i hi; simp only [List.mem_cons, List.not_mem_nil, or_false] at hi ⊢ <;> omega)
  have e_u1 : (va_up v 66 (nI 0)) 66 = (nI 0) := by simp [va_up]
  generalize va_up v 66 (nI 0) = u1 at hv2 hm3 e_u1 ⊢
  refine ST.lift (fun _ _ k => T_aload_n (v := .ref 373) d_Mo_tamper_5 rfl (Or.inr ⟨_, rfl⟩) k) ?_
  refine ST.lift (fun _ _ k => T_iload_n d_Mo_tamper_6 rfl k) ?_
  refine ST.lift (fun _ _ k => T_iload_n d_Mo_tamper_7 rfl k) ?_
  refine ST.lift (fun _ _ k => T_iload_n d_Mo_tamper_8 rfl k) ?_
  refine S_virtual (as := [.int (nI 3), .int y, .int z]) (rest := []) (b := 373) d_Mo_tamper_9 rfl (jw_Mo_isWire.jo (by decide)) lm_Mo_595 ji_Mo_isWire js_Mo_isWire (w373 _) rfl rfl rfl (Nat.le_of_ble_eq_true rfl) (by decide) (by decide) (c_Mo_isWire_3_neg G u1 y z hz_n hv2) (fun r u4 hq => ?_)
  obtain ⟨hr, hv5, hm6⟩ := hq
  rw [hr]
  clear hr r
  have hm7 := hm3.go hm6 (by intro i hi; simp only [List.mem_cons, List.not_mem_nil, or_false] at hi ⊢ <;> omega)
  have e8 : u4 66 = nI 0 := (hm6 66 (by decide)).trans e_u1
  show ST G mi_Mo_tamper 12 [(0, .ref 373), (1, .int (nI 3)), (2, .int y), (3, .int z), (4, .int mask)] [.int (nI 0)] u4 0 0 _
  refine S_if_neN d_Mo_tamper_12 rfl (by omega) (fun c => by first | exact absurd c (by omega) | exact c.elim | exact absurd c (by decide) | exact absurd (by assumption) c | exact absurd c (by assumption) | exact absurd c (Int32.not_le.mpr (by assumption))) (fun _ => ?_)
  refine ST.lift (fun _ _ k => T_iconst (v := nI 0) d_Mo_tamper_15 (by decide) k) ?_
  refine S_topi (y := nI 0) (congrArg nI (by omega)) ?_
  exact S_ret d_Mo_tamper_16 rfl (nar_z (by omega)) (by decide) (by decide) (hQ _ hv5 hm7 (e8.trans (congrArg nI (by omega))))
set_option maxRecDepth 100000 in
set_option maxHeartbeats 4000000 in
theorem c_Mo_isWire_3_oth (G : GX) (v : Nat → Int32) (y : Int32) (i : Nat) (b_i : i < 2147483648) (h1_m : ¬ y = nI 1) (h2_m : ¬ y = nI 2) (h3_m : ¬ y = nI 3) (hv : okv v) : CS G mi_Mo_isWire [.ref 373, .int (nI 3), .int y, .int (nI i)] v (fun r v' => r = some (.int (nI 0)) ∧ okv v' ∧ mdf [] v v') := by
  refine CS.of (by decide) (Nat.le_of_ble_eq_true rfl) ?_
  generalize hQe : (fun (r : Option Value) (v' : Nat → Int32) => r = some (.int (nI 0)) ∧ okv v' ∧ mdf [] v v') = Q
  have hQ : ∀ u, okv u → mdf [] v u → Q (some (.int (nI 0))) u := by rw [← hQe]; exact fun u h1 h2  => ⟨rfl, h1, h2⟩
  clear hQe
  have hm : mdf [] v v := mdf.rf
  show ST G mi_Mo_isWire 0 [(0, .ref 373), (1, .int (nI 3)), (2, .int y), (3, .int (nI i))] [] v 0 0 Q
  refine ST.lift (fun _ _ k => T_iload_n d_Mo_isWire_0 rfl k) ?_
  refine S_static (as := [.int (nI 3)]) (rest := []) d_Mo_isWire_1 rfl (jw_Mo_isSession.jo (by decide)) lm_Mo_545 jt_Mo_isSession rfl (Nat.le_of_ble_eq_true rfl) (by decide) (by decide) (c_Mo_isSession G v 3 (by omega)) (fun r v' hq => ?_)
  rw [hq.1, hq.2]
  clear hq r v'
  show ST G mi_Mo_isWire 4 [(0, .ref 373), (1, .int (nI 3)), (2, .int y), (3, .int (nI i))] [.int (nI 1)] v 0 0 _
  refine S_if_eqN d_Mo_isWire_4 rfl (by omega) (fun c => by first | exact absurd c (by omega) | exact c.elim | exact absurd c (by decide) | exact absurd (by assumption) c | exact absurd c (by assumption) | exact absurd c (Int32.not_le.mpr (by assumption))) (fun _ => ?_)
  refine ST.lift (fun _ _ k => T_iload_n d_Mo_isWire_7 rfl k) ?_
  refine S_if_geN d_Mo_isWire_8 rfl (by omega) (fun _ => ?_) (fun c => by first | exact absurd c (by omega) | exact c.elim | exact absurd c (by decide) | exact absurd (by assumption) c | exact absurd c (by assumption) | exact absurd c (Int32.not_le.mpr (by assumption)))
  refine ST.lift (fun _ _ k => T_iload_n d_Mo_isWire_13 rfl k) ?_
  refine ST.lift (fun _ _ k => T_iconst (v := nI 1) d_Mo_isWire_14 (by decide) k) ?_
  refine S_icmp_ne d_Mo_isWire_15 rfl (fun _ => ?_) (fun c => by first | exact absurd c (by omega) | exact c.elim | exact absurd c (by decide) | exact absurd (by assumption) c | exact absurd c (by assumption) | exact absurd c (Int32.not_le.mpr (by assumption)))
  refine ST.lift (fun _ _ k => T_iload_n d_Mo_isWire_39 rfl k) ?_
  refine ST.lift (fun _ _ k => T_iconst (v := nI 2) d_Mo_isWire_40 (by decide) k) ?_
  refine S_icmp_ne d_Mo_isWire_41 rfl (fun _ => ?_) (fun c => by first | exact absurd c (by omega) | exact c.elim | exact absurd c (by decide) | exact absurd (by assumption) c | exact absurd c (by assumption) | exact absurd c (Int32.not_le.mpr (by assumption)))
  refine ST.lift (fun _ _ k => T_iload_n d_Mo_isWire_66 rfl k) ?_
  refine ST.lift (fun _ _ k => T_iconst (v := nI 3) d_Mo_isWire_67 (by decide) k) ?_
  refine S_icmp_ne d_Mo_isWire_68 rfl (fun _ => ?_) (fun c => by first | exact absurd c (by omega) | exact c.elim | exact absurd c (by decide) | exact absurd (by assumption) c | exact absurd c (by assumption) | exact absurd c (Int32.not_le.mpr (by assumption)))
  refine ST.lift (fun _ _ k => T_iconst (v := nI 0) d_Mo_isWire_90 (by decide) k) ?_
  refine S_topi (y := nI 0) (congrArg nI (by omega)) ?_
  exact S_ret d_Mo_isWire_91 rfl (nar_z (by omega)) (by decide) (by decide) (hQ _ hv hm)
set_option maxRecDepth 100000 in
set_option maxHeartbeats 4000000 in
theorem c_Mo_wire_3_oth (G : GX) (v : Nat → Int32) (y : Int32) (i : Nat) (b_i : i < 2147483648) (h1_m : ¬ y = nI 1) (h2_m : ¬ y = nI 2) (h3_m : ¬ y = nI 3) (hv : okv v) : CS G mi_Mo_wire [.ref 373, .int (nI 3), .int y, .int (nI i)] v (fun r v' => r = some (.int (nI 0)) ∧ okv v' ∧ mdf [66] v v' ∧ v' 66 = nI 1) := by
  refine CS.of (by decide) (Nat.le_of_ble_eq_true rfl) ?_
  generalize hQe : (fun (r : Option Value) (v' : Nat → Int32) => r = some (.int (nI 0)) ∧ okv v' ∧ mdf [66] v v' ∧ v' 66 = nI 1) = Q
  have hQ : ∀ u, okv u → mdf [66] v u → u 66 = nI 1 → Q (some (.int (nI 0))) u := by rw [← hQe]; exact fun u h1 h2 f0 => ⟨rfl, h1, h2, f0⟩
  clear hQe
  have hm : mdf [66] v v := mdf.rf
  show ST G mi_Mo_wire 0 [(0, .ref 373), (1, .int (nI 3)), (2, .int y), (3, .int (nI i))] [] v 0 0 Q
  refine ST.lift (fun _ _ k => T_aload_n (v := .ref 373) d_Mo_wire_0 rfl (Or.inr ⟨_, rfl⟩) k) ?_
  refine ST.lift (fun _ _ k => T_iconst (v := nI 0) d_Mo_wire_1 (by decide) k) ?_
  refine S_putfield (v' := va_up v 66 (nI 0)) d_Mo_wire_2 (fp_Mo_316 _) (w373 _) (Nat.le_of_ble_eq_true rfl) ⟨rfl, rfl⟩ (u373_0 _ _) ?_
  have hv2 := hv.off (j := 66) (x := (nI 0)) (by decide)
  have hm3 := hm.go (mdf.up (v := v) (j := 66) (x := (nI 0))) (by intro i hi; simp only [List.mem_cons, List.not_mem_nil, or_false] at hi ⊢ <;> omega)
  have e_u1 : (va_up v 66 (nI 0)) 66 = (nI 0) := by simp [va_up]
  generalize va_up v 66 (nI 0) = u1 at hv2 hm3 e_u1 ⊢
  refine ST.lift (fun _ _ k => T_aload_n (v := .ref 373) d_Mo_wire_5 rfl (Or.inr ⟨_, rfl⟩) k) ?_
  refine ST.lift (fun _ _ k => T_iload_n d_Mo_wire_6 rfl k) ?_
  refine ST.lift (fun _ _ k => T_iload_n d_Mo_wire_7 rfl k) ?_
  refine ST.lift (fun _ _ k => T_iload_n d_Mo_wire_8 rfl k) ?_
  refine S_virtual (as := [.int (nI 3), .int y, .int (nI i)]) (rest := []) (b := 373) d_Mo_wire_9 rfl (jw_Mo_isWire.jo (by decide)) lm_Mo_595 ji_Mo_isWire js_Mo_isWire (w373 _) rfl rfl rfl (Nat.le_of_ble_eq_true rfl) (by decide) (by decide) (c_Mo_isWire_3_oth G u1 y i (by omega) h1_m h2_m h3_m hv2) (fun r u4 hq => ?_)
  obtain ⟨hr, hv5, hm6⟩ := hq
  rw [hr]
  clear hr r
  have hm7 := hm3.go hm6 (by intro i hi; simp only [List.mem_cons, List.not_mem_nil, or_false] at hi ⊢ <;> omega)
  have e8 : u4 66 = nI 0 := (hm6 66 (by decide)).trans e_u1
  show ST G mi_Mo_wire 12 [(0, .ref 373), (1, .int (nI 3)), (2, .int y), (3, .int (nI i))] [.int (nI 0)] u4 0 0 _
  refine S_if_neN d_Mo_wire_12 rfl (by omega) (fun c => by first | exact absurd c (by omega) | exact c.elim | exact absurd c (by decide) | exact absurd (by assumption) c | exact absurd c (by assumption) | exact absurd c (Int32.not_le.mpr (by assumption))) (fun _ => ?_)
  refine ST.lift (fun _ _ k => T_aload_n (v := .ref 373) d_Mo_wire_15 rfl (Or.inr ⟨_, rfl⟩) k) ?_
  refine ST.lift (fun _ _ k => T_iconst (v := nI 1) d_Mo_wire_16 (by decide) k) ?_
  refine S_putfield (v' := va_up u4 66 (nI 1)) d_Mo_wire_17 (fp_Mo_316 _) (w373 _) (Nat.le_of_ble_eq_true rfl) ⟨rfl, rfl⟩ (u373_0 _ _) ?_
  have hv10 := hv5.off (j := 66) (x := (nI 1)) (by decide)
  have hm11 := hm7.go (mdf.up (v := u4) (j := 66) (x := (nI 1))) (by intro i hi; simp only [List.mem_cons, List.not_mem_nil, or_false] at hi ⊢ <;> omega)
  have e_u9 : (va_up u4 66 (nI 1)) 66 = (nI 1) := by simp [va_up]
  generalize va_up u4 66 (nI 1) = u9 at hv10 hm11 e_u9 ⊢
  refine ST.lift (fun _ _ k => T_iconst (v := nI 0) d_Mo_wire_20 (by decide) k) ?_
  refine S_topi (y := nI 0) (congrArg nI (by omega)) ?_
  exact S_ret d_Mo_wire_21 rfl rfl (by decide) (by decide) (hQ _ hv10 hm11 (e_u9.trans (congrArg nI (by omega))))
set_option maxRecDepth 100000 in
set_option maxHeartbeats 4000000 in
theorem c_Mo_tamper_3_oth (G : GX) (v : Nat → Int32) (y : Int32) (i : Nat) (b_i : i < 2147483648) (mask : Int32) (h1_m : ¬ y = nI 1) (h2_m : ¬ y = nI 2) (h3_m : ¬ y = nI 3) (hv : okv v) : CS G mi_Mo_tamper [.ref 373, .int (nI 3), .int y, .int (nI i), .int mask] v (fun r v' => r = some (.int (nI 0)) ∧ okv v' ∧ mdf [66] v v' ∧ v' 66 = nI 0) := by
  refine CS.of (by decide) (Nat.le_of_ble_eq_true rfl) ?_
  generalize hQe : (fun (r : Option Value) (v' : Nat → Int32) => r = some (.int (nI 0)) ∧ okv v' ∧ mdf [66] v v' ∧ v' 66 = nI 0) = Q
  have hQ : ∀ u, okv u → mdf [66] v u → u 66 = nI 0 → Q (some (.int (nI 0))) u := by rw [← hQe]; exact fun u h1 h2 f0 => ⟨rfl, h1, h2, f0⟩
  clear hQe
  have hm : mdf [66] v v := mdf.rf
  show ST G mi_Mo_tamper 0 [(0, .ref 373), (1, .int (nI 3)), (2, .int y), (3, .int (nI i)), (4, .int mask)] [] v 0 0 Q
  refine ST.lift (fun _ _ k => T_aload_n (v := .ref 373) d_Mo_tamper_0 rfl (Or.inr ⟨_, rfl⟩) k) ?_
  refine ST.lift (fun _ _ k => T_iconst (v := nI 0) d_Mo_tamper_1 (by decide) k) ?_
  refine S_putfield (v' := va_up v 66 (nI 0)) d_Mo_tamper_2 (fp_Mo_316 _) (w373 _) (Nat.le_of_ble_eq_true rfl) ⟨rfl, rfl⟩ (u373_0 _ _) ?_
  have hv2 := hv.off (j := 66) (x := (nI 0)) (by decide)
  have hm3 := hm.go (mdf.up (v := v) (j := 66) (x := (nI 0))) (by intro i hi; simp only [List.mem_cons, List.not_mem_nil, or_false] at hi ⊢ <;> omega)
  have e_u1 : (va_up v 66 (nI 0)) 66 = (nI 0) := by simp [va_up]
  generalize va_up v 66 (nI 0) = u1 at hv2 hm3 e_u1 ⊢
  refine ST.lift (fun _ _ k => T_aload_n (v := .ref 373) d_Mo_tamper_5 rfl (Or.inr ⟨_, rfl⟩) k) ?_
  refine ST.lift (fun _ _ k => T_iload_n d_Mo_tamper_6 rfl k) ?_
  refine ST.lift (fun _ _ k => T_iload_n d_Mo_tamper_7 rfl k) ?_
  refine ST.lift (fun _ _ k => T_iload_n d_Mo_tamper_8 rfl k) ?_
  refine S_virtual (as := [.int (nI 3), .int y, .int (nI i)]) (rest := []) (b := 373) d_Mo_tamper_9 rfl (jw_Mo_isWire.jo (by decide)) lm_Mo_595 ji_Mo_isWire js_Mo_isWire (w373 _) rfl rfl rfl (Nat.le_of_ble_eq_true rfl) (by decide) (by decide) (c_Mo_isWire_3_oth G u1 y i (by omega) h1_m h2_m h3_m hv2) (fun r u4 hq => ?_)
  obtain ⟨hr, hv5, hm6⟩ := hq
  rw [hr]
  clear hr r
  have hm7 := hm3.go hm6 (by intro i hi; simp only [List.mem_cons, List.not_mem_nil, or_false] at hi ⊢ <;> omega)
  have e8 : u4 66 = nI 0 := (hm6 66 (by decide)).trans e_u1
  show ST G mi_Mo_tamper 12 [(0, .ref 373), (1, .int (nI 3)), (2, .int y), (3, .int (nI i)), (4, .int mask)] [.int (nI 0)] u4 0 0 _
  refine S_if_neN d_Mo_tamper_12 rfl (by omega) (fun c => by first | exact absurd c (by omega) | exact c.elim | exact absurd c (by decide) | exact absurd (by assumption) c | exact absurd c (by assumption) | exact absurd c (Int32.not_le.mpr (by assumption))) (fun _ => ?_)
  refine ST.lift (fun _ _ k => T_iconst (v := nI 0) d_Mo_tamper_15 (by decide) k) ?_
  refine S_topi (y := nI 0) (congrArg nI (by omega)) ?_
  exact S_ret d_Mo_tamper_16 rfl (nar_z (by omega)) (by decide) (by decide) (hQ _ hv5 hm7 (e8.trans (congrArg nI (by omega))))
set_option maxRecDepth 100000 in
set_option maxHeartbeats 4000000 in
theorem c_Mo_isWire_3_1_not (G : GX) (v : Nat → Int32) (i : Nat) (b_i : i < 2147483648) (e99 : v 99 = nI 0) (hv : okv v) : CS G mi_Mo_isWire [.ref 373, .int (nI 3), .int (nI 1), .int (nI i)] v (fun r v' => r = some (.int (nI 0)) ∧ okv v' ∧ mdf [] v v' ∧ v' 99 = nI 0) := by
  refine CS.of (by decide) (Nat.le_of_ble_eq_true rfl) ?_
  generalize hQe : (fun (r : Option Value) (v' : Nat → Int32) => r = some (.int (nI 0)) ∧ okv v' ∧ mdf [] v v' ∧ v' 99 = nI 0) = Q
  have hQ : ∀ u, okv u → mdf [] v u → u 99 = nI 0 → Q (some (.int (nI 0))) u := by rw [← hQe]; exact fun u h1 h2 f0 => ⟨rfl, h1, h2, f0⟩
  clear hQe
  have hm : mdf [] v v := mdf.rf
  show ST G mi_Mo_isWire 0 [(0, .ref 373), (1, .int (nI 3)), (2, .int (nI 1)), (3, .int (nI i))] [] v 0 0 Q
  refine ST.lift (fun _ _ k => T_iload_n d_Mo_isWire_0 rfl k) ?_
  refine S_static (as := [.int (nI 3)]) (rest := []) d_Mo_isWire_1 rfl (jw_Mo_isSession.jo (by decide)) lm_Mo_545 jt_Mo_isSession rfl (Nat.le_of_ble_eq_true rfl) (by decide) (by decide) (c_Mo_isSession G v 3 (by omega)) (fun r v' hq => ?_)
  rw [hq.1, hq.2]
  clear hq r v'
  show ST G mi_Mo_isWire 4 [(0, .ref 373), (1, .int (nI 3)), (2, .int (nI 1)), (3, .int (nI i))] [.int (nI 1)] v 0 0 _
  refine S_if_eqN d_Mo_isWire_4 rfl (by omega) (fun c => by first | exact absurd c (by omega) | exact c.elim | exact absurd c (by decide) | exact absurd (by assumption) c | exact absurd c (by assumption) | exact absurd c (Int32.not_le.mpr (by assumption))) (fun _ => ?_)
  refine ST.lift (fun _ _ k => T_iload_n d_Mo_isWire_7 rfl k) ?_
  refine S_if_geN d_Mo_isWire_8 rfl (by omega) (fun _ => ?_) (fun c => by first | exact absurd c (by omega) | exact c.elim | exact absurd c (by decide) | exact absurd (by assumption) c | exact absurd c (by assumption) | exact absurd c (Int32.not_le.mpr (by assumption)))
  refine ST.lift (fun _ _ k => T_iload_n d_Mo_isWire_13 rfl k) ?_
  refine ST.lift (fun _ _ k => T_iconst (v := nI 1) d_Mo_isWire_14 (by decide) k) ?_
  refine S_icmp_neN d_Mo_isWire_15 rfl (by omega) (by omega) (fun c => by first | exact absurd c (by omega) | exact c.elim | exact absurd c (by decide) | exact absurd (by assumption) c | exact absurd c (by assumption) | exact absurd c (Int32.not_le.mpr (by assumption))) (fun _ => ?_)
  refine ST.lift (fun _ _ k => T_aload_n (v := .ref 373) d_Mo_isWire_18 rfl (Or.inr ⟨_, rfl⟩) k) ?_
  refine S_getfield d_Mo_isWire_19 fg_Mo_392 (w373 _) rfl ?_
  refine ST.lift (fun _ _ k => T_iload_n d_Mo_isWire_22 rfl k) ?_
  refine S_xload (t := 3) (k := 3) (Or.inr ⟨rfl, d_Mo_isWire_23⟩) rfl (w424 _) (by decide) (by decide) ?_
  refine S_topi (y := v 99) rfl ?_
  refine S_topi (y := nI 0) (e99) ?_
  refine S_if_eqN d_Mo_isWire_24 rfl (by omega) (fun _ => ?_) (fun c => by first | exact absurd c (by omega) | exact c.elim | exact absurd c (by decide) | exact absurd (by assumption) c | exact absurd c (by assumption) | exact absurd c (Int32.not_le.mpr (by assumption)))
  refine ST.lift (fun _ _ k => T_iconst (v := nI 0) d_Mo_isWire_37 (by decide) k) ?_
  refine S_topi (y := nI 0) (congrArg nI (by omega)) ?_
  exact S_ret d_Mo_isWire_38 rfl (nar_z (by omega)) (by decide) (by decide) (hQ _ hv hm (e99.trans (congrArg nI (by omega))))
set_option maxRecDepth 100000 in
set_option maxHeartbeats 4000000 in
theorem c_Mo_wire_3_1_not (G : GX) (v : Nat → Int32) (i : Nat) (b_i : i < 2147483648) (e99 : v 99 = nI 0) (hv : okv v) : CS G mi_Mo_wire [.ref 373, .int (nI 3), .int (nI 1), .int (nI i)] v (fun r v' => r = some (.int (nI 0)) ∧ okv v' ∧ mdf [66] v v' ∧ v' 66 = nI 1) := by
  refine CS.of (by decide) (Nat.le_of_ble_eq_true rfl) ?_
  generalize hQe : (fun (r : Option Value) (v' : Nat → Int32) => r = some (.int (nI 0)) ∧ okv v' ∧ mdf [66] v v' ∧ v' 66 = nI 1) = Q
  have hQ : ∀ u, okv u → mdf [66] v u → u 66 = nI 1 → Q (some (.int (nI 0))) u := by rw [← hQe]; exact fun u h1 h2 f0 => ⟨rfl, h1, h2, f0⟩
  clear hQe
  have hm : mdf [66] v v := mdf.rf
  show ST G mi_Mo_wire 0 [(0, .ref 373), (1, .int (nI 3)), (2, .int (nI 1)), (3, .int (nI i))] [] v 0 0 Q
  refine ST.lift (fun _ _ k => T_aload_n (v := .ref 373) d_Mo_wire_0 rfl (Or.inr ⟨_, rfl⟩) k) ?_
  refine ST.lift (fun _ _ k => T_iconst (v := nI 0) d_Mo_wire_1 (by decide) k) ?_
  refine S_putfield (v' := va_up v 66 (nI 0)) d_Mo_wire_2 (fp_Mo_316 _) (w373 _) (Nat.le_of_ble_eq_true rfl) ⟨rfl, rfl⟩ (u373_0 _ _) ?_
  have hv2 := hv.off (j := 66) (x := (nI 0)) (by decide)
  have hm3 := hm.go (mdf.up (v := v) (j := 66) (x := (nI 0))) (by intro i hi; simp only [List.mem_cons, List.not_mem_nil, or_false] at hi ⊢ <;> omega)
  have e_u1 : (va_up v 66 (nI 0)) 66 = (nI 0) := by simp [va_up]
  have e4 : (va_up v 66 (nI 0)) 99 = nI 0 := by simp only [va_up]; exact e99
  generalize va_up v 66 (nI 0) = u1 at hv2 hm3 e_u1 e4 ⊢
  refine ST.lift (fun _ _ k => T_aload_n (v := .ref 373) d_Mo_wire_5 rfl (Or.inr ⟨_, rfl⟩) k) ?_
  refine ST.lift (fun _ _ k => T_iload_n d_Mo_wire_6 rfl k) ?_
  refine ST.lift (fun _ _ k => T_iload_n d_Mo_wire_7 rfl k) ?_
  refine ST.lift (fun _ _ k => T_iload_n d_Mo_wire_8 rfl k) ?_
  refine S_virtual (as := [.int (nI 3), .int (nI 1), .int (nI i)]) (rest := []) (b := 373) d_Mo_wire_9 rfl (jw_Mo_isWire.jo (by decide)) lm_Mo_595 ji_Mo_isWire js_Mo_isWire (w373 _) rfl rfl rfl (Nat.le_of_ble_eq_true rfl) (by decide) (by decide) (c_Mo_isWire_3_1_not G u1 i (by omega) e4 hv2) (fun r u5 hq => ?_)
  obtain ⟨hr, hv6, hm7, fe0_u5⟩ := hq
  rw [hr]
  clear hr r
  have hm8 := hm3.go hm7 (by intro i hi; simp only [List.mem_cons, List.not_mem_nil, or_false] at hi ⊢ <;> omega)
  have e9 : u5 99 = nI 0 := (hm7 99 (by decide)).trans e4
  have e10 : u5 66 = nI 0 := (hm7 66 (by decide)).trans e_u1
  show ST G mi_Mo_wire 12 [(0, .ref 373), (1, .int (nI 3)), (2, .int (nI 1)), (3, .int (nI i))] [.int (nI 0)] u5 0 0 _
  refine S_if_neN d_Mo_wire_12 rfl (by omega) (fun c => by first | exact absurd c (by omega) | exact c.elim | exact absurd c (by decide) | exact absurd (by assumption) c | exact absurd c (by assumption) | exact absurd c (Int32.not_le.mpr (by assumption))) (fun _ => ?_)
  refine ST.lift (fun _ _ k => T_aload_n (v := .ref 373) d_Mo_wire_15 rfl (Or.inr ⟨_, rfl⟩) k) ?_
  refine ST.lift (fun _ _ k => T_iconst (v := nI 1) d_Mo_wire_16 (by decide) k) ?_
  refine S_putfield (v' := va_up u5 66 (nI 1)) d_Mo_wire_17 (fp_Mo_316 _) (w373 _) (Nat.le_of_ble_eq_true rfl) ⟨rfl, rfl⟩ (u373_0 _ _) ?_
  have hv12 := hv6.off (j := 66) (x := (nI 1)) (by decide)
  have hm13 := hm8.go (mdf.up (v := u5) (j := 66) (x := (nI 1))) (by intro i hi; simp only [List.mem_cons, List.not_mem_nil, or_false] at hi ⊢ <;> omega)
  have e_u11 : (va_up u5 66 (nI 1)) 66 = (nI 1) := by simp [va_up]
  have e14 : (va_up u5 66 (nI 1)) 99 = nI 0 := by simp only [va_up]; exact fe0_u5
  generalize va_up u5 66 (nI 1) = u11 at hv12 hm13 e_u11 e14 ⊢
  refine ST.lift (fun _ _ k => T_iconst (v := nI 0) d_Mo_wire_20 (by decide) k) ?_
  refine S_topi (y := nI 0) (congrArg nI (by omega)) ?_
  exact S_ret d_Mo_wire_21 rfl rfl (by decide) (by decide) (hQ _ hv12 hm13 (e_u11.trans (congrArg nI (by omega))))
set_option maxRecDepth 100000 in
set_option maxHeartbeats 4000000 in
theorem c_Mo_tamper_3_1_not (G : GX) (v : Nat → Int32) (i : Nat) (b_i : i < 2147483648) (mask : Int32) (e99 : v 99 = nI 0) (hv : okv v) : CS G mi_Mo_tamper [.ref 373, .int (nI 3), .int (nI 1), .int (nI i), .int mask] v (fun r v' => r = some (.int (nI 0)) ∧ okv v' ∧ mdf [66] v v' ∧ v' 66 = nI 0) := by
  refine CS.of (by decide) (Nat.le_of_ble_eq_true rfl) ?_
  generalize hQe : (fun (r : Option Value) (v' : Nat → Int32) => r = some (.int (nI 0)) ∧ okv v' ∧ mdf [66] v v' ∧ v' 66 = nI 0) = Q
  have hQ : ∀ u, okv u → mdf [66] v u → u 66 = nI 0 → Q (some (.int (nI 0))) u := by rw [← hQe]; exact fun u h1 h2 f0 => ⟨rfl, h1, h2, f0⟩
  clear hQe
  have hm : mdf [66] v v := mdf.rf
  show ST G mi_Mo_tamper 0 [(0, .ref 373), (1, .int (nI 3)), (2, .int (nI 1)), (3, .int (nI i)), (4, .int mask)] [] v 0 0 Q
  refine ST.lift (fun _ _ k => T_aload_n (v := .ref 373) d_Mo_tamper_0 rfl (Or.inr ⟨_, rfl⟩) k) ?_
  refine ST.lift (fun _ _ k => T_iconst (v := nI 0) d_Mo_tamper_1 (by decide) k) ?_
  refine S_putfield (v' := va_up v 66 (nI 0)) d_Mo_tamper_2 (fp_Mo_316 _) (w373 _) (Nat.le_of_ble_eq_true rfl) ⟨rfl, rfl⟩ (u373_0 _ _) ?_
  have hv2 := hv.off (j := 66) (x := (nI 0)) (by decide)
  have hm3 := hm.go (mdf.up (v := v) (j := 66) (x := (nI 0))) (by intro i hi; simp only [List.mem_cons, List.not_mem_nil, or_false] at hi ⊢ <;> omega)
  have e_u1 : (va_up v 66 (nI 0)) 66 = (nI 0) := by simp [va_up]
  have e4 : (va_up v 66 (nI 0)) 99 = nI 0 := by simp only [va_up]; exact e99
  generalize va_up v 66 (nI 0) = u1 at hv2 hm3 e_u1 e4 ⊢
  refine ST.lift (fun _ _ k => T_aload_n (v := .ref 373) d_Mo_tamper_5 rfl (Or.inr ⟨_, rfl⟩) k) ?_
  refine ST.lift (fun _ _ k => T_iload_n d_Mo_tamper_6 rfl k) ?_
  refine ST.lift (fun _ _ k => T_iload_n d_Mo_tamper_7 rfl k) ?_
  refine ST.lift (fun _ _ k => T_iload_n d_Mo_tamper_8 rfl k) ?_
  refine S_virtual (as := [.int (nI 3), .int (nI 1), .int (nI i)]) (rest := []) (b := 373) d_Mo_tamper_9 rfl (jw_Mo_isWire.jo (by decide)) lm_Mo_595 ji_Mo_isWire js_Mo_isWire (w373 _) rfl rfl rfl (Nat.le_of_ble_eq_true rfl) (by decide) (by decide) (c_Mo_isWire_3_1_not G u1 i (by omega) e4 hv2) (fun r u5 hq => ?_)
  obtain ⟨hr, hv6, hm7, fe0_u5⟩ := hq
  rw [hr]
  clear hr r
  have hm8 := hm3.go hm7 (by intro i hi; simp only [List.mem_cons, List.not_mem_nil, or_false] at hi ⊢ <;> omega)
  have e9 : u5 99 = nI 0 := (hm7 99 (by decide)).trans e4
  have e10 : u5 66 = nI 0 := (hm7 66 (by decide)).trans e_u1
  show ST G mi_Mo_tamper 12 [(0, .ref 373), (1, .int (nI 3)), (2, .int (nI 1)), (3, .int (nI i)), (4, .int mask)] [.int (nI 0)] u5 0 0 _
  refine S_if_neN d_Mo_tamper_12 rfl (by omega) (fun c => by first | exact absurd c (by omega) | exact c.elim | exact absurd c (by decide) | exact absurd (by assumption) c | exact absurd c (by assumption) | exact absurd c (Int32.not_le.mpr (by assumption))) (fun _ => ?_)
  refine ST.lift (fun _ _ k => T_iconst (v := nI 0) d_Mo_tamper_15 (by decide) k) ?_
  refine S_topi (y := nI 0) (congrArg nI (by omega)) ?_
  exact S_ret d_Mo_tamper_16 rfl (nar_z (by omega)) (by decide) (by decide) (hQ _ hv6 hm8 (e10.trans (congrArg nI (by omega))))
set_option maxRecDepth 100000 in
set_option maxHeartbeats 4000000 in
theorem c_Mo_isWire_3_2_not (G : GX) (v : Nat → Int32) (i : Nat) (b_i : i < 2147483648) (e103 : v 103 = nI 0) (hv : okv v) : CS G mi_Mo_isWire [.ref 373, .int (nI 3), .int (nI 2), .int (nI i)] v (fun r v' => r = some (.int (nI 0)) ∧ okv v' ∧ mdf [] v v' ∧ v' 103 = nI 0) := by
  refine CS.of (by decide) (Nat.le_of_ble_eq_true rfl) ?_
  generalize hQe : (fun (r : Option Value) (v' : Nat → Int32) => r = some (.int (nI 0)) ∧ okv v' ∧ mdf [] v v' ∧ v' 103 = nI 0) = Q
  have hQ : ∀ u, okv u → mdf [] v u → u 103 = nI 0 → Q (some (.int (nI 0))) u := by rw [← hQe]; exact fun u h1 h2 f0 => ⟨rfl, h1, h2, f0⟩
  clear hQe
  have hm : mdf [] v v := mdf.rf
  show ST G mi_Mo_isWire 0 [(0, .ref 373), (1, .int (nI 3)), (2, .int (nI 2)), (3, .int (nI i))] [] v 0 0 Q
  refine ST.lift (fun _ _ k => T_iload_n d_Mo_isWire_0 rfl k) ?_
  refine S_static (as := [.int (nI 3)]) (rest := []) d_Mo_isWire_1 rfl (jw_Mo_isSession.jo (by decide)) lm_Mo_545 jt_Mo_isSession rfl (Nat.le_of_ble_eq_true rfl) (by decide) (by decide) (c_Mo_isSession G v 3 (by omega)) (fun r v' hq => ?_)
  rw [hq.1, hq.2]
  clear hq r v'
  show ST G mi_Mo_isWire 4 [(0, .ref 373), (1, .int (nI 3)), (2, .int (nI 2)), (3, .int (nI i))] [.int (nI 1)] v 0 0 _
  refine S_if_eqN d_Mo_isWire_4 rfl (by omega) (fun c => by first | exact absurd c (by omega) | exact c.elim | exact absurd c (by decide) | exact absurd (by assumption) c | exact absurd c (by assumption) | exact absurd c (Int32.not_le.mpr (by assumption))) (fun _ => ?_)
  refine ST.lift (fun _ _ k => T_iload_n d_Mo_isWire_7 rfl k) ?_
  refine S_if_geN d_Mo_isWire_8 rfl (by omega) (fun _ => ?_) (fun c => by first | exact absurd c (by omega) | exact c.elim | exact absurd c (by decide) | exact absurd (by assumption) c | exact absurd c (by assumption) | exact absurd c (Int32.not_le.mpr (by assumption)))
  refine ST.lift (fun _ _ k => T_iload_n d_Mo_isWire_13 rfl k) ?_
  refine ST.lift (fun _ _ k => T_iconst (v := nI 1) d_Mo_isWire_14 (by decide) k) ?_
  refine S_icmp_neN d_Mo_isWire_15 rfl (by omega) (by omega) (fun _ => ?_) (fun c => by first | exact absurd c (by omega) | exact c.elim | exact absurd c (by decide) | exact absurd (by assumption) c | exact absurd c (by assumption) | exact absurd c (Int32.not_le.mpr (by assumption)))
  refine ST.lift (fun _ _ k => T_iload_n d_Mo_isWire_39 rfl k) ?_
  refine ST.lift (fun _ _ k => T_iconst (v := nI 2) d_Mo_isWire_40 (by decide) k) ?_
  refine S_icmp_neN d_Mo_isWire_41 rfl (by omega) (by omega) (fun c => by first | exact absurd c (by omega) | exact c.elim | exact absurd c (by decide) | exact absurd (by assumption) c | exact absurd c (by assumption) | exact absurd c (Int32.not_le.mpr (by assumption))) (fun _ => ?_)
  refine ST.lift (fun _ _ k => T_aload_n (v := .ref 373) d_Mo_isWire_44 rfl (Or.inr ⟨_, rfl⟩) k) ?_
  refine S_getfield d_Mo_isWire_45 fg_Mo_395 (w373 _) rfl ?_
  refine ST.lift (fun _ _ k => T_iload_n d_Mo_isWire_48 rfl k) ?_
  refine S_xload (t := 3) (k := 3) (Or.inr ⟨rfl, d_Mo_isWire_49⟩) rfl (w425 _) (by decide) (by decide) ?_
  refine S_topi (y := v 103) rfl ?_
  refine S_topi (y := nI 0) (e103) ?_
  refine S_if_eqN d_Mo_isWire_50 rfl (by omega) (fun _ => ?_) (fun c => by first | exact absurd c (by omega) | exact c.elim | exact absurd c (by decide) | exact absurd (by assumption) c | exact absurd c (by assumption) | exact absurd c (Int32.not_le.mpr (by assumption)))
  refine ST.lift (fun _ _ k => T_iconst (v := nI 0) d_Mo_isWire_64 (by decide) k) ?_
  refine S_topi (y := nI 0) (congrArg nI (by omega)) ?_
  exact S_ret d_Mo_isWire_65 rfl (nar_z (by omega)) (by decide) (by decide) (hQ _ hv hm (e103.trans (congrArg nI (by omega))))
set_option maxRecDepth 100000 in
set_option maxHeartbeats 4000000 in
theorem c_Mo_wire_3_2_not (G : GX) (v : Nat → Int32) (i : Nat) (b_i : i < 2147483648) (e103 : v 103 = nI 0) (hv : okv v) : CS G mi_Mo_wire [.ref 373, .int (nI 3), .int (nI 2), .int (nI i)] v (fun r v' => r = some (.int (nI 0)) ∧ okv v' ∧ mdf [66] v v' ∧ v' 66 = nI 1) := by
  refine CS.of (by decide) (Nat.le_of_ble_eq_true rfl) ?_
  generalize hQe : (fun (r : Option Value) (v' : Nat → Int32) => r = some (.int (nI 0)) ∧ okv v' ∧ mdf [66] v v' ∧ v' 66 = nI 1) = Q
  have hQ : ∀ u, okv u → mdf [66] v u → u 66 = nI 1 → Q (some (.int (nI 0))) u := by rw [← hQe]; exact fun u h1 h2 f0 => ⟨rfl, h1, h2, f0⟩
  clear hQe
  have hm : mdf [66] v v := mdf.rf
  show ST G mi_Mo_wire 0 [(0, .ref 373), (1, .int (nI 3)), (2, .int (nI 2)), (3, .int (nI i))] [] v 0 0 Q
  refine ST.lift (fun _ _ k => T_aload_n (v := .ref 373) d_Mo_wire_0 rfl (Or.inr ⟨_, rfl⟩) k) ?_
  refine ST.lift (fun _ _ k => T_iconst (v := nI 0) d_Mo_wire_1 (by decide) k) ?_
  refine S_putfield (v' := va_up v 66 (nI 0)) d_Mo_wire_2 (fp_Mo_316 _) (w373 _) (Nat.le_of_ble_eq_true rfl) ⟨rfl, rfl⟩ (u373_0 _ _) ?_
  have hv2 := hv.off (j := 66) (x := (nI 0)) (by decide)
  have hm3 := hm.go (mdf.up (v := v) (j := 66) (x := (nI 0))) (by intro i hi; simp only [List.mem_cons, List.not_mem_nil, or_false] at hi ⊢ <;> omega)
  have e_u1 : (va_up v 66 (nI 0)) 66 = (nI 0) := by simp [va_up]
  have e4 : (va_up v 66 (nI 0)) 103 = nI 0 := by simp only [va_up]; exact e103
  generalize va_up v 66 (nI 0) = u1 at hv2 hm3 e_u1 e4 ⊢
  refine ST.lift (fun _ _ k => T_aload_n (v := .ref 373) d_Mo_wire_5 rfl (Or.inr ⟨_, rfl⟩) k) ?_
  refine ST.lift (fun _ _ k => T_iload_n d_Mo_wire_6 rfl k) ?_
  refine ST.lift (fun _ _ k => T_iload_n d_Mo_wire_7 rfl k) ?_
  refine ST.lift (fun _ _ k => T_iload_n d_Mo_wire_8 rfl k) ?_
  refine S_virtual (as := [.int (nI 3), .int (nI 2), .int (nI i)]) (rest := []) (b := 373) d_Mo_wire_9 rfl (jw_Mo_isWire.jo (by decide)) lm_Mo_595 ji_Mo_isWire js_Mo_isWire (w373 _) rfl rfl rfl (Nat.le_of_ble_eq_true rfl) (by decide) (by decide) (c_Mo_isWire_3_2_not G u1 i (by omega) e4 hv2) (fun r u5 hq => ?_)
  obtain ⟨hr, hv6, hm7, fe0_u5⟩ := hq
  rw [hr]
  clear hr r
  have hm8 := hm3.go hm7 (by intro i hi; simp only [List.mem_cons, List.not_mem_nil, or_false] at hi ⊢ <;> omega)
  have e9 : u5 103 = nI 0 := (hm7 103 (by decide)).trans e4
  have e10 : u5 66 = nI 0 := (hm7 66 (by decide)).trans e_u1
  show ST G mi_Mo_wire 12 [(0, .ref 373), (1, .int (nI 3)), (2, .int (nI 2)), (3, .int (nI i))] [.int (nI 0)] u5 0 0 _
  refine S_if_neN d_Mo_wire_12 rfl (by omega) (fun c => by first | exact absurd c (by omega) | exact c.elim | exact absurd c (by decide) | exact absurd (by assumption) c | exact absurd c (by assumption) | exact absurd c (Int32.not_le.mpr (by assumption))) (fun _ => ?_)
  refine ST.lift (fun _ _ k => T_aload_n (v := .ref 373) d_Mo_wire_15 rfl (Or.inr ⟨_, rfl⟩) k) ?_
  refine ST.lift (fun _ _ k => T_iconst (v := nI 1) d_Mo_wire_16 (by decide) k) ?_
  refine S_putfield (v' := va_up u5 66 (nI 1)) d_Mo_wire_17 (fp_Mo_316 _) (w373 _) (Nat.le_of_ble_eq_true rfl) ⟨rfl, rfl⟩ (u373_0 _ _) ?_
  have hv12 := hv6.off (j := 66) (x := (nI 1)) (by decide)
  have hm13 := hm8.go (mdf.up (v := u5) (j := 66) (x := (nI 1))) (by intro i hi; simp only [List.mem_cons, List.not_mem_nil, or_false] at hi ⊢ <;> omega)
  have e_u11 : (va_up u5 66 (nI 1)) 66 = (nI 1) := by simp [va_up]
  have e14 : (va_up u5 66 (nI 1)) 103 = nI 0 := by simp only [va_up]; exact fe0_u5
  generalize va_up u5 66 (nI 1) = u11 at hv12 hm13 e_u11 e14 ⊢
  refine ST.lift (fun _ _ k => T_iconst (v := nI 0) d_Mo_wire_20 (by decide) k) ?_
  refine S_topi (y := nI 0) (congrArg nI (by omega)) ?_
  exact S_ret d_Mo_wire_21 rfl rfl (by decide) (by decide) (hQ _ hv12 hm13 (e_u11.trans (congrArg nI (by omega))))
set_option maxRecDepth 100000 in
set_option maxHeartbeats 4000000 in
theorem c_Mo_tamper_3_2_not (G : GX) (v : Nat → Int32) (i : Nat) (b_i : i < 2147483648) (mask : Int32) (e103 : v 103 = nI 0) (hv : okv v) : CS G mi_Mo_tamper [.ref 373, .int (nI 3), .int (nI 2), .int (nI i), .int mask] v (fun r v' => r = some (.int (nI 0)) ∧ okv v' ∧ mdf [66] v v' ∧ v' 66 = nI 0) := by
  refine CS.of (by decide) (Nat.le_of_ble_eq_true rfl) ?_
  generalize hQe : (fun (r : Option Value) (v' : Nat → Int32) => r = some (.int (nI 0)) ∧ okv v' ∧ mdf [66] v v' ∧ v' 66 = nI 0) = Q
  have hQ : ∀ u, okv u → mdf [66] v u → u 66 = nI 0 → Q (some (.int (nI 0))) u := by rw [← hQe]; exact fun u h1 h2 f0 => ⟨rfl, h1, h2, f0⟩
  clear hQe
  have hm : mdf [66] v v := mdf.rf
  show ST G mi_Mo_tamper 0 [(0, .ref 373), (1, .int (nI 3)), (2, .int (nI 2)), (3, .int (nI i)), (4, .int mask)] [] v 0 0 Q
  refine ST.lift (fun _ _ k => T_aload_n (v := .ref 373) d_Mo_tamper_0 rfl (Or.inr ⟨_, rfl⟩) k) ?_
  refine ST.lift (fun _ _ k => T_iconst (v := nI 0) d_Mo_tamper_1 (by decide) k) ?_
  refine S_putfield (v' := va_up v 66 (nI 0)) d_Mo_tamper_2 (fp_Mo_316 _) (w373 _) (Nat.le_of_ble_eq_true rfl) ⟨rfl, rfl⟩ (u373_0 _ _) ?_
  have hv2 := hv.off (j := 66) (x := (nI 0)) (by decide)
  have hm3 := hm.go (mdf.up (v := v) (j := 66) (x := (nI 0))) (by intro i hi; simp only [List.mem_cons, List.not_mem_nil, or_false] at hi ⊢ <;> omega)
  have e_u1 : (va_up v 66 (nI 0)) 66 = (nI 0) := by simp [va_up]
  have e4 : (va_up v 66 (nI 0)) 103 = nI 0 := by simp only [va_up]; exact e103
  generalize va_up v 66 (nI 0) = u1 at hv2 hm3 e_u1 e4 ⊢
  refine ST.lift (fun _ _ k => T_aload_n (v := .ref 373) d_Mo_tamper_5 rfl (Or.inr ⟨_, rfl⟩) k) ?_
  refine ST.lift (fun _ _ k => T_iload_n d_Mo_tamper_6 rfl k) ?_
  refine ST.lift (fun _ _ k => T_iload_n d_Mo_tamper_7 rfl k) ?_
  refine ST.lift (fun _ _ k => T_iload_n d_Mo_tamper_8 rfl k) ?_
  refine S_virtual (as := [.int (nI 3), .int (nI 2), .int (nI i)]) (rest := []) (b := 373) d_Mo_tamper_9 rfl (jw_Mo_isWire.jo (by decide)) lm_Mo_595 ji_Mo_isWire js_Mo_isWire (w373 _) rfl rfl rfl (Nat.le_of_ble_eq_true rfl) (by decide) (by decide) (c_Mo_isWire_3_2_not G u1 i (by omega) e4 hv2) (fun r u5 hq => ?_)
  obtain ⟨hr, hv6, hm7, fe0_u5⟩ := hq
  rw [hr]
  clear hr r
  have hm8 := hm3.go hm7 (by intro i hi; simp only [List.mem_cons, List.not_mem_nil, or_false] at hi ⊢ <;> omega)
  have e9 : u5 103 = nI 0 := (hm7 103 (by decide)).trans e4
  have e10 : u5 66 = nI 0 := (hm7 66 (by decide)).trans e_u1
  show ST G mi_Mo_tamper 12 [(0, .ref 373), (1, .int (nI 3)), (2, .int (nI 2)), (3, .int (nI i)), (4, .int mask)] [.int (nI 0)] u5 0 0 _
  refine S_if_neN d_Mo_tamper_12 rfl (by omega) (fun c => by first | exact absurd c (by omega) | exact c.elim | exact absurd c (by decide) | exact absurd (by assumption) c | exact absurd c (by assumption) | exact absurd c (Int32.not_le.mpr (by assumption))) (fun _ => ?_)
  refine ST.lift (fun _ _ k => T_iconst (v := nI 0) d_Mo_tamper_15 (by decide) k) ?_
  refine S_topi (y := nI 0) (congrArg nI (by omega)) ?_
  exact S_ret d_Mo_tamper_16 rfl (nar_z (by omega)) (by decide) (by decide) (hQ _ hv6 hm8 (e10.trans (congrArg nI (by omega))))
set_option maxRecDepth 100000 in
set_option maxHeartbeats 4000000 in
theorem c_Mo_isWire_3_3_not (G : GX) (v : Nat → Int32) (i : Nat) (b_i : i < 2147483648) (e107 : v 107 = nI 0) (hv : okv v) : CS G mi_Mo_isWire [.ref 373, .int (nI 3), .int (nI 3), .int (nI i)] v (fun r v' => r = some (.int (nI 0)) ∧ okv v' ∧ mdf [] v v' ∧ v' 107 = nI 0) := by
  refine CS.of (by decide) (Nat.le_of_ble_eq_true rfl) ?_
  generalize hQe : (fun (r : Option Value) (v' : Nat → Int32) => r = some (.int (nI 0)) ∧ okv v' ∧ mdf [] v v' ∧ v' 107 = nI 0) = Q
  have hQ : ∀ u, okv u → mdf [] v u → u 107 = nI 0 → Q (some (.int (nI 0))) u := by rw [← hQe]; exact fun u h1 h2 f0 => ⟨rfl, h1, h2, f0⟩
  clear hQe
  have hm : mdf [] v v := mdf.rf
  show ST G mi_Mo_isWire 0 [(0, .ref 373), (1, .int (nI 3)), (2, .int (nI 3)), (3, .int (nI i))] [] v 0 0 Q
  refine ST.lift (fun _ _ k => T_iload_n d_Mo_isWire_0 rfl k) ?_
  refine S_static (as := [.int (nI 3)]) (rest := []) d_Mo_isWire_1 rfl (jw_Mo_isSession.jo (by decide)) lm_Mo_545 jt_Mo_isSession rfl (Nat.le_of_ble_eq_true rfl) (by decide) (by decide) (c_Mo_isSession G v 3 (by omega)) (fun r v' hq => ?_)
  rw [hq.1, hq.2]
  clear hq r v'
  show ST G mi_Mo_isWire 4 [(0, .ref 373), (1, .int (nI 3)), (2, .int (nI 3)), (3, .int (nI i))] [.int (nI 1)] v 0 0 _
  refine S_if_eqN d_Mo_isWire_4 rfl (by omega) (fun c => by first | exact absurd c (by omega) | exact c.elim | exact absurd c (by decide) | exact absurd (by assumption) c | exact absurd c (by assumption) | exact absurd c (Int32.not_le.mpr (by assumption))) (fun _ => ?_)
  refine ST.lift (fun _ _ k => T_iload_n d_Mo_isWire_7 rfl k) ?_
  refine S_if_geN d_Mo_isWire_8 rfl (by omega) (fun _ => ?_) (fun c => by first | exact absurd c (by omega) | exact c.elim | exact absurd c (by decide) | exact absurd (by assumption) c | exact absurd c (by assumption) | exact absurd c (Int32.not_le.mpr (by assumption)))
  refine ST.lift (fun _ _ k => T_iload_n d_Mo_isWire_13 rfl k) ?_
  refine ST.lift (fun _ _ k => T_iconst (v := nI 1) d_Mo_isWire_14 (by decide) k) ?_
  refine S_icmp_neN d_Mo_isWire_15 rfl (by omega) (by omega) (fun _ => ?_) (fun c => by first | exact absurd c (by omega) | exact c.elim | exact absurd c (by decide) | exact absurd (by assumption) c | exact absurd c (by assumption) | exact absurd c (Int32.not_le.mpr (by assumption)))
  refine ST.lift (fun _ _ k => T_iload_n d_Mo_isWire_39 rfl k) ?_
  refine ST.lift (fun _ _ k => T_iconst (v := nI 2) d_Mo_isWire_40 (by decide) k) ?_
  refine S_icmp_neN d_Mo_isWire_41 rfl (by omega) (by omega) (fun _ => ?_) (fun c => by first | exact absurd c (by omega) | exact c.elim | exact absurd c (by decide) | exact absurd (by assumption) c | exact absurd c (by assumption) | exact absurd c (Int32.not_le.mpr (by assumption)))
  refine ST.lift (fun _ _ k => T_iload_n d_Mo_isWire_66 rfl k) ?_
  refine ST.lift (fun _ _ k => T_iconst (v := nI 3) d_Mo_isWire_67 (by decide) k) ?_
  refine S_icmp_neN d_Mo_isWire_68 rfl (by omega) (by omega) (fun c => by first | exact absurd c (by omega) | exact c.elim | exact absurd c (by decide) | exact absurd (by assumption) c | exact absurd c (by assumption) | exact absurd c (Int32.not_le.mpr (by assumption))) (fun _ => ?_)
  refine ST.lift (fun _ _ k => T_aload_n (v := .ref 373) d_Mo_isWire_71 rfl (Or.inr ⟨_, rfl⟩) k) ?_
  refine S_getfield d_Mo_isWire_72 fg_Mo_398 (w373 _) rfl ?_
  refine ST.lift (fun _ _ k => T_iload_n d_Mo_isWire_75 rfl k) ?_
  refine S_xload (t := 3) (k := 3) (Or.inr ⟨rfl, d_Mo_isWire_76⟩) rfl (w426 _) (by decide) (by decide) ?_
  refine S_topi (y := v 107) rfl ?_
  refine S_topi (y := nI 0) (e107) ?_
  refine S_if_eqN d_Mo_isWire_77 rfl (by omega) (fun _ => ?_) (fun c => by first | exact absurd c (by omega) | exact c.elim | exact absurd c (by decide) | exact absurd (by assumption) c | exact absurd c (by assumption) | exact absurd c (Int32.not_le.mpr (by assumption)))
  refine ST.lift (fun _ _ k => T_iconst (v := nI 0) d_Mo_isWire_90 (by decide) k) ?_
  refine S_topi (y := nI 0) (congrArg nI (by omega)) ?_
  exact S_ret d_Mo_isWire_91 rfl (nar_z (by omega)) (by decide) (by decide) (hQ _ hv hm (e107.trans (congrArg nI (by omega))))
set_option maxRecDepth 100000 in
set_option maxHeartbeats 4000000 in
theorem c_Mo_wire_3_3_not (G : GX) (v : Nat → Int32) (i : Nat) (b_i : i < 2147483648) (e107 : v 107 = nI 0) (hv : okv v) : CS G mi_Mo_wire [.ref 373, .int (nI 3), .int (nI 3), .int (nI i)] v (fun r v' => r = some (.int (nI 0)) ∧ okv v' ∧ mdf [66] v v' ∧ v' 66 = nI 1) := by
  refine CS.of (by decide) (Nat.le_of_ble_eq_true rfl) ?_
  generalize hQe : (fun (r : Option Value) (v' : Nat → Int32) => r = some (.int (nI 0)) ∧ okv v' ∧ mdf [66] v v' ∧ v' 66 = nI 1) = Q
  have hQ : ∀ u, okv u → mdf [66] v u → u 66 = nI 1 → Q (some (.int (nI 0))) u := by rw [← hQe]; exact fun u h1 h2 f0 => ⟨rfl, h1, h2, f0⟩
  clear hQe
  have hm : mdf [66] v v := mdf.rf
  show ST G mi_Mo_wire 0 [(0, .ref 373), (1, .int (nI 3)), (2, .int (nI 3)), (3, .int (nI i))] [] v 0 0 Q
  refine ST.lift (fun _ _ k => T_aload_n (v := .ref 373) d_Mo_wire_0 rfl (Or.inr ⟨_, rfl⟩) k) ?_
  refine ST.lift (fun _ _ k => T_iconst (v := nI 0) d_Mo_wire_1 (by decide) k) ?_
  refine S_putfield (v' := va_up v 66 (nI 0)) d_Mo_wire_2 (fp_Mo_316 _) (w373 _) (Nat.le_of_ble_eq_true rfl) ⟨rfl, rfl⟩ (u373_0 _ _) ?_
  have hv2 := hv.off (j := 66) (x := (nI 0)) (by decide)
  have hm3 := hm.go (mdf.up (v := v) (j := 66) (x := (nI 0))) (by intro i hi; simp only [List.mem_cons, List.not_mem_nil, or_false] at hi ⊢ <;> omega)
  have e_u1 : (va_up v 66 (nI 0)) 66 = (nI 0) := by simp [va_up]
  have e4 : (va_up v 66 (nI 0)) 107 = nI 0 := by simp only [va_up]; exact e107
  generalize va_up v 66 (nI 0) = u1 at hv2 hm3 e_u1 e4 ⊢
  refine ST.lift (fun _ _ k => T_aload_n (v := .ref 373) d_Mo_wire_5 rfl (Or.inr ⟨_, rfl⟩) k) ?_
  refine ST.lift (fun _ _ k => T_iload_n d_Mo_wire_6 rfl k) ?_
  refine ST.lift (fun _ _ k => T_iload_n d_Mo_wire_7 rfl k) ?_
  refine ST.lift (fun _ _ k => T_iload_n d_Mo_wire_8 rfl k) ?_
  refine S_virtual (as := [.int (nI 3), .int (nI 3), .int (nI i)]) (rest := []) (b := 373) d_Mo_wire_9 rfl (jw_Mo_isWire.jo (by decide)) lm_Mo_595 ji_Mo_isWire js_Mo_isWire (w373 _) rfl rfl rfl (Nat.le_of_ble_eq_true rfl) (by decide) (by decide) (c_Mo_isWire_3_3_not G u1 i (by omega) e4 hv2) (fun r u5 hq => ?_)
  obtain ⟨hr, hv6, hm7, fe0_u5⟩ := hq
  rw [hr]
  clear hr r
  have hm8 := hm3.go hm7 (by intro i hi; simp only [List.mem_cons, List.not_mem_nil, or_false] at hi ⊢ <;> omega)
  have e9 : u5 107 = nI 0 := (hm7 107 (by decide)).trans e4
  have e10 : u5 66 = nI 0 := (hm7 66 (by decide)).trans e_u1
  show ST G mi_Mo_wire 12 [(0, .ref 373), (1, .int (nI 3)), (2, .int (nI 3)), (3, .int (nI i))] [.int (nI 0)] u5 0 0 _
  refine S_if_neN d_Mo_wire_12 rfl (by omega) (fun c => by first | exact absurd c (by omega) | exact c.elim | exact absurd c (by decide) | exact absurd (by assumption) c | exact absurd c (by assumption) | exact absurd c (Int32.not_le.mpr (by assumption))) (fun _ => ?_)
  refine ST.lift (fun _ _ k => T_aload_n (v := .ref 373) d_Mo_wire_15 rfl (Or.inr ⟨_, rfl⟩) k) ?_
  refine ST.lift (fun _ _ k => T_iconst (v := nI 1) d_Mo_wire_16 (by decide) k) ?_
  refine S_putfield (v' := va_up u5 66 (nI 1)) d_Mo_wire_17 (fp_Mo_316 _) (w373 _) (Nat.le_of_ble_eq_true rfl) ⟨rfl, rfl⟩ (u373_0 _ _) ?_
  have hv12 := hv6.off (j := 66) (x := (nI 1)) (by decide)
  have hm13 := hm8.go (mdf.up (v := u5) (j := 66) (x := (nI 1))) (by intro i hi; simp only [List.mem_cons, List.not_mem_nil, or_false] at hi ⊢ <;> omega)
  have e_u11 : (va_up u5 66 (nI 1)) 66 = (nI 1) := by simp [va_up]
  have e14 : (va_up u5 66 (nI 1)) 107 = nI 0 := by simp only [va_up]; exact fe0_u5
  generalize va_up u5 66 (nI 1) = u11 at hv12 hm13 e_u11 e14 ⊢
  refine ST.lift (fun _ _ k => T_iconst (v := nI 0) d_Mo_wire_20 (by decide) k) ?_
  refine S_topi (y := nI 0) (congrArg nI (by omega)) ?_
  exact S_ret d_Mo_wire_21 rfl rfl (by decide) (by decide) (hQ _ hv12 hm13 (e_u11.trans (congrArg nI (by omega))))
set_option maxRecDepth 100000 in
set_option maxHeartbeats 4000000 in
theorem c_Mo_tamper_3_3_not (G : GX) (v : Nat → Int32) (i : Nat) (b_i : i < 2147483648) (mask : Int32) (e107 : v 107 = nI 0) (hv : okv v) : CS G mi_Mo_tamper [.ref 373, .int (nI 3), .int (nI 3), .int (nI i), .int mask] v (fun r v' => r = some (.int (nI 0)) ∧ okv v' ∧ mdf [66] v v' ∧ v' 66 = nI 0) := by
  refine CS.of (by decide) (Nat.le_of_ble_eq_true rfl) ?_
  generalize hQe : (fun (r : Option Value) (v' : Nat → Int32) => r = some (.int (nI 0)) ∧ okv v' ∧ mdf [66] v v' ∧ v' 66 = nI 0) = Q
  have hQ : ∀ u, okv u → mdf [66] v u → u 66 = nI 0 → Q (some (.int (nI 0))) u := by rw [← hQe]; exact fun u h1 h2 f0 => ⟨rfl, h1, h2, f0⟩
  clear hQe
  have hm : mdf [66] v v := mdf.rf
  show ST G mi_Mo_tamper 0 [(0, .ref 373), (1, .int (nI 3)), (2, .int (nI 3)), (3, .int (nI i)), (4, .int mask)] [] v 0 0 Q
  refine ST.lift (fun _ _ k => T_aload_n (v := .ref 373) d_Mo_tamper_0 rfl (Or.inr ⟨_, rfl⟩) k) ?_
  refine ST.lift (fun _ _ k => T_iconst (v := nI 0) d_Mo_tamper_1 (by decide) k) ?_
  refine S_putfield (v' := va_up v 66 (nI 0)) d_Mo_tamper_2 (fp_Mo_316 _) (w373 _) (Nat.le_of_ble_eq_true rfl) ⟨rfl, rfl⟩ (u373_0 _ _) ?_
  have hv2 := hv.off (j := 66) (x := (nI 0)) (by decide)
  have hm3 := hm.go (mdf.up (v := v) (j := 66) (x := (nI 0))) (by intro i hi; simp only [List.mem_cons, List.not_mem_nil, or_false] at hi ⊢ <;> omega)
  have e_u1 : (va_up v 66 (nI 0)) 66 = (nI 0) := by simp [va_up]
  have e4 : (va_up v 66 (nI 0)) 107 = nI 0 := by simp only [va_up]; exact e107
  generalize va_up v 66 (nI 0) = u1 at hv2 hm3 e_u1 e4 ⊢
  refine ST.lift (fun _ _ k => T_aload_n (v := .ref 373) d_Mo_tamper_5 rfl (Or.inr ⟨_, rfl⟩) k) ?_
  refine ST.lift (fun _ _ k => T_iload_n d_Mo_tamper_6 rfl k) ?_
  refine ST.lift (fun _ _ k => T_iload_n d_Mo_tamper_7 rfl k) ?_
  refine ST.lift (fun _ _ k => T_iload_n d_Mo_tamper_8 rfl k) ?_
  refine S_virtual (as := [.int (nI 3), .int (nI 3), .int (nI i)]) (rest := []) (b := 373) d_Mo_tamper_9 rfl (jw_Mo_isWire.jo (by decide)) lm_Mo_595 ji_Mo_isWire js_Mo_isWire (w373 _) rfl rfl rfl (Nat.le_of_ble_eq_true rfl) (by decide) (by decide) (c_Mo_isWire_3_3_not G u1 i (by omega) e4 hv2) (fun r u5 hq => ?_)
  obtain ⟨hr, hv6, hm7, fe0_u5⟩ := hq
  rw [hr]
  clear hr r
  have hm8 := hm3.go hm7 (by intro i hi; simp only [List.mem_cons, List.not_mem_nil, or_false] at hi ⊢ <;> omega)
  have e9 : u5 107 = nI 0 := (hm7 107 (by decide)).trans e4
  have e10 : u5 66 = nI 0 := (hm7 66 (by decide)).trans e_u1
  show ST G mi_Mo_tamper 12 [(0, .ref 373), (1, .int (nI 3)), (2, .int (nI 3)), (3, .int (nI i)), (4, .int mask)] [.int (nI 0)] u5 0 0 _
  refine S_if_neN d_Mo_tamper_12 rfl (by omega) (fun c => by first | exact absurd c (by omega) | exact c.elim | exact absurd c (by decide) | exact absurd (by assumption) c | exact absurd c (by assumption) | exact absurd c (Int32.not_le.mpr (by assumption))) (fun _ => ?_)
  refine ST.lift (fun _ _ k => T_iconst (v := nI 0) d_Mo_tamper_15 (by decide) k) ?_
  refine S_topi (y := nI 0) (congrArg nI (by omega)) ?_
  exact S_ret d_Mo_tamper_16 rfl (nar_z (by omega)) (by decide) (by decide) (hQ _ hv6 hm8 (e10.trans (congrArg nI (by omega))))
set_option maxRecDepth 100000 in
set_option maxHeartbeats 4000000 in
theorem c_Mo_key_3_neg (G : GX) (v : Nat → Int32) (y : Int32) (z : Int32) (hz_n : z < 0) (hv : okv v) : CS G mi_Mo_key [.ref 373, .int (nI 3), .int y, .int z] v (fun r v' => r = some (.int (nI 0)) ∧ okv v' ∧ mdf [66] v v' ∧ v' 66 = nI 1) := by
  refine CS.of (by decide) (Nat.le_of_ble_eq_true rfl) ?_
  generalize hQe : (fun (r : Option Value) (v' : Nat → Int32) => r = some (.int (nI 0)) ∧ okv v' ∧ mdf [66] v v' ∧ v' 66 = nI 1) = Q
  have hQ : ∀ u, okv u → mdf [66] v u → u 66 = nI 1 → Q (some (.int (nI 0))) u := by rw [← hQe]; exact fun u h1 h2 f0 => ⟨rfl, h1, h2, f0⟩
  clear hQe
  have hm : mdf [66] v v := mdf.rf
  show ST G mi_Mo_key 0 [(0, .ref 373), (1, .int (nI 3)), (2, .int y), (3, .int z)] [] v 0 0 Q
  refine ST.lift (fun _ _ k => T_aload_n (v := .ref 373) d_Mo_key_0 rfl (Or.inr ⟨_, rfl⟩) k) ?_
  refine ST.lift (fun _ _ k => T_iconst (v := nI 0) d_Mo_key_1 (by decide) k) ?_
  refine S_putfield (v' := va_up v 66 (nI 0)) d_Mo_key_2 (fp_Mo_316 _) (w373 _) (Nat.le_of_ble_eq_true rfl) ⟨rfl, rfl⟩ (u373_0 _ _) ?_
  have hv2 := hv.off (j := 66) (x := (nI 0)) (by decide)
  have hm3 := hm.go (mdf.up (v := v) (j := 66) (x := (nI 0))) (by intro i hi; simp only [List.mem_cons, List.not_mem_nil, or_false] at hi ⊢ <;> omega)
  have e_u1 : (va_up v 66 (nI 0)) 66 = (nI 0) := by simp [va_up]
  generalize va_up v 66 (nI 0) = u1 at hv2 hm3 e_u1 ⊢
  refine ST.lift (fun _ _ k => T_iload_n d_Mo_key_5 rfl k) ?_
  refine S_static (as := [.int (nI 3)]) (rest := []) d_Mo_key_6 rfl (jw_Mo_isSession.jo (by decide)) lm_Mo_545 jt_Mo_isSession rfl (Nat.le_of_ble_eq_true rfl) (by decide) (by decide) (c_Mo_isSession G u1 3 (by omega)) (fun r v' hq => ?_)
  rw [hq.1, hq.2]
  clear hq r v'
  show ST G mi_Mo_key 9 [(0, .ref 373), (1, .int (nI 3)), (2, .int y), (3, .int z)] [.int (nI 1)] u1 0 0 _
  refine S_if_eqN d_Mo_key_9 rfl (by omega) (fun c => by first | exact absurd c (by omega) | exact c.elim | exact absurd c (by decide) | exact absurd (by assumption) c | exact absurd c (by assumption) | exact absurd c (Int32.not_le.mpr (by assumption))) (fun _ => ?_)
  refine ST.lift (fun _ _ k => T_iload_n d_Mo_key_12 rfl k) ?_
  refine S_if_lt d_Mo_key_13 rfl (fun _ => ?_) (fun c => by first | exact absurd c (by omega) | exact c.elim | exact absurd c (by decide) | exact absurd (by assumption) c | exact absurd c (by assumption) | exact absurd c (Int32.not_le.mpr (by assumption)))
  refine ST.lift (fun _ _ k => T_iconst (v := nI 0) d_Mo_key_35 (by decide) k) ?_
  refine ST.lift (fun _ _ k => T_istore (L' := [(4, .int (nI 0)), (0, .ref 373), (1, .int (nI 3)), (2, .int y), (3, .int z)]) d_Mo_key_36 (by decide) rfl k) ?_
  refine ST.lift (fun _ _ k => T_iload d_Mo_key_38 rfl k) ?_
  refine S_if_eqN d_Mo_key_40 rfl (by omega) (fun _ => ?_) (fun c => by first | exact absurd c (by omega) | exact c.elim | exact absurd c (by decide) | exact absurd (by assumption) c | exact absurd c (by assumption) | exact absurd c (Int32.not_le.mpr (by assumption)))
  refine ST.lift (fun _ _ k => T_iload d_Mo_key_59 rfl k) ?_
  refine S_if_eqN d_Mo_key_61 rfl (by omega) (fun _ => ?_) (fun c => by first | exact absurd c (by omega) | exact c.elim | exact absurd c (by decide) | exact absurd (by assumption) c | exact absurd c (by assumption) | exact absurd c (Int32.not_le.mpr (by assumption)))
  refine ST.lift (fun _ _ k => T_iload d_Mo_key_72 rfl k) ?_
  refine S_if_neN d_Mo_key_74 rfl (by omega) (fun c => by first | exact absurd c (by omega) | exact c.elim | exact absurd c (by decide) | exact absurd (by assumption) c | exact absurd c (by assumption) | exact absurd c (Int32.not_le.mpr (by assumption))) (fun _ => ?_)
  refine ST.lift (fun _ _ k => T_aload_n (v := .ref 373) d_Mo_key_77 rfl (Or.inr ⟨_, rfl⟩) k) ?_
  refine ST.lift (fun _ _ k => T_iconst (v := nI 1) d_Mo_key_78 (by decide) k) ?_
  refine S_putfield (v' := va_up u1 66 (nI 1)) d_Mo_key_79 (fp_Mo_316 _) (w373 _) (Nat.le_of_ble_eq_true rfl) ⟨rfl, rfl⟩ (u373_0 _ _) ?_
  have hv5 := hv2.off (j := 66) (x := (nI 1)) (by decide)
  have hm6 := hm3.go (mdf.up (v := u1) (j := 66) (x := (nI 1))) (by intro i hi; simp only [List.mem_cons, List.not_mem_nil, or_false] at hi ⊢ <;> omega)
  have e_u4 : (va_up u1 66 (nI 1)) 66 = (nI 1) := by simp [va_up]
  generalize va_up u1 66 (nI 1) = u4 at hv5 hm6 e_u4 ⊢
  refine ST.lift (fun _ _ k => T_iconst (v := nI 0) d_Mo_key_82 (by decide) k) ?_
  refine S_topi (y := nI 0) (congrArg nI (by omega)) ?_
  exact S_ret d_Mo_key_83 rfl rfl (by decide) (by decide) (hQ _ hv5 hm6 (e_u4.trans (congrArg nI (by omega))))
set_option maxRecDepth 100000 in
set_option maxHeartbeats 4000000 in
theorem c_Mo_key_3_far (G : GX) (v : Nat → Int32) (y : Int32) (i : Nat) (b_i : i < 2147483648) (hi : 64 ≤ i) (hv : okv v) : CS G mi_Mo_key [.ref 373, .int (nI 3), .int y, .int (nI i)] v (fun r v' => r = some (.int (nI 0)) ∧ okv v' ∧ mdf [66] v v' ∧ v' 66 = nI 1) := by
  refine CS.of (by decide) (Nat.le_of_ble_eq_true rfl) ?_
  generalize hQe : (fun (r : Option Value) (v' : Nat → Int32) => r = some (.int (nI 0)) ∧ okv v' ∧ mdf [66] v v' ∧ v' 66 = nI 1) = Q
  have hQ : ∀ u, okv u → mdf [66] v u → u 66 = nI 1 → Q (some (.int (nI 0))) u := by rw [← hQe]; exact fun u h1 h2 f0 => ⟨rfl, h1, h2, f0⟩
  clear hQe
  have hm : mdf [66] v v := mdf.rf
  show ST G mi_Mo_key 0 [(0, .ref 373), (1, .int (nI 3)), (2, .int y), (3, .int (nI i))] [] v 0 0 Q
  refine ST.lift (fun _ _ k => T_aload_n (v := .ref 373) d_Mo_key_0 rfl (Or.inr ⟨_, rfl⟩) k) ?_
  refine ST.lift (fun _ _ k => T_iconst (v := nI 0) d_Mo_key_1 (by decide) k) ?_
  refine S_putfield (v' := va_up v 66 (nI 0)) d_Mo_key_2 (fp_Mo_316 _) (w373 _) (Nat.le_of_ble_eq_true rfl) ⟨rfl, rfl⟩ (u373_0 _ _) ?_
  have hv2 := hv.off (j := 66) (x := (nI 0)) (by decide)
  have hm3 := hm.go (mdf.up (v := v) (j := 66) (x := (nI 0))) (by intro i hi; simp only [List.mem_cons, List.not_mem_nil, or_false] at hi ⊢ <;> omega)
  have e_u1 : (va_up v 66 (nI 0)) 66 = (nI 0) := by simp [va_up]
  generalize va_up v 66 (nI 0) = u1 at hv2 hm3 e_u1 ⊢
  refine ST.lift (fun _ _ k => T_iload_n d_Mo_key_5 rfl k) ?_
  refine S_static (as := [.int (nI 3)]) (rest := []) d_Mo_key_6 rfl (jw_Mo_isSession.jo (by decide)) lm_Mo_545 jt_Mo_isSession rfl (Nat.le_of_ble_eq_true rfl) (by decide) (by decide) (c_Mo_isSession G u1 3 (by omega)) (fun r v' hq => ?_)
  rw [hq.1, hq.2]
  clear hq r v'
  show ST G mi_Mo_key 9 [(0, .ref 373), (1, .int (nI 3)), (2, .int y), (3, .int (nI i))] [.int (nI 1)] u1 0 0 _
  refine S_if_eqN d_Mo_key_9 rfl (by omega) (fun c => by first | exact absurd c (by omega) | exact c.elim | exact absurd c (by decide) | exact absurd (by assumption) c | exact absurd c (by assumption) | exact absurd c (Int32.not_le.mpr (by assumption))) (fun _ => ?_)
  refine ST.lift (fun _ _ k => T_iload_n d_Mo_key_12 rfl k) ?_
  refine S_if_ltN d_Mo_key_13 rfl (by omega) (fun c => by first | exact absurd c (by omega) | exact c.elim | exact absurd c (by decide) | exact absurd (by assumption) c | exact absurd c (by assumption) | exact absurd c (Int32.not_le.mpr (by assumption))) (fun _ => ?_)
  refine ST.lift (fun _ _ k => T_iload_n d_Mo_key_16 rfl k) ?_
  refine ST.lift (fun _ _ k => T_bipush (v := nI 64) d_Mo_key_17 (by decide) k) ?_
  refine S_icmp_geN d_Mo_key_19 rfl (by omega) (by omega) (fun _ => ?_) (fun c => by first | exact absurd c (by omega) | exact c.elim | exact absurd c (by decide) | exact absurd (by assumption) c | exact absurd c (by assumption) | exact absurd c (Int32.not_le.mpr (by assumption)))
  refine ST.lift (fun _ _ k => T_iconst (v := nI 0) d_Mo_key_35 (by decide) k) ?_
  refine ST.lift (fun _ _ k => T_istore (L' := [(4, .int (nI 0)), (0, .ref 373), (1, .int (nI 3)), (2, .int y), (3, .int (nI i))]) d_Mo_key_36 (by decide) rfl k) ?_
  refine ST.lift (fun _ _ k => T_iload d_Mo_key_38 rfl k) ?_
  refine S_if_eqN d_Mo_key_40 rfl (by omega) (fun _ => ?_) (fun c => by first | exact absurd c (by omega) | exact c.elim | exact absurd c (by decide) | exact absurd (by assumption) c | exact absurd c (by assumption) | exact absurd c (Int32.not_le.mpr (by assumption)))
  refine ST.lift (fun _ _ k => T_iload d_Mo_key_59 rfl k) ?_
  refine S_if_eqN d_Mo_key_61 rfl (by omega) (fun _ => ?_) (fun c => by first | exact absurd c (by omega) | exact c.elim | exact absurd c (by decide) | exact absurd (by assumption) c | exact absurd c (by assumption) | exact absurd c (Int32.not_le.mpr (by assumption)))
  refine ST.lift (fun _ _ k => T_iload d_Mo_key_72 rfl k) ?_
  refine S_if_neN d_Mo_key_74 rfl (by omega) (fun c => by first | exact absurd c (by omega) | exact c.elim | exact absurd c (by decide) | exact absurd (by assumption) c | exact absurd c (by assumption) | exact absurd c (Int32.not_le.mpr (by assumption))) (fun _ => ?_)
  refine ST.lift (fun _ _ k => T_aload_n (v := .ref 373) d_Mo_key_77 rfl (Or.inr ⟨_, rfl⟩) k) ?_
  refine ST.lift (fun _ _ k => T_iconst (v := nI 1) d_Mo_key_78 (by decide) k) ?_
  refine S_putfield (v' := va_up u1 66 (nI 1)) d_Mo_key_79 (fp_Mo_316 _) (w373 _) (Nat.le_of_ble_eq_true rfl) ⟨rfl, rfl⟩ (u373_0 _ _) ?_
  have hv5 := hv2.off (j := 66) (x := (nI 1)) (by decide)
  have hm6 := hm3.go (mdf.up (v := u1) (j := 66) (x := (nI 1))) (by intro i hi; simp only [List.mem_cons, List.not_mem_nil, or_false] at hi ⊢ <;> omega)
  have e_u4 : (va_up u1 66 (nI 1)) 66 = (nI 1) := by simp [va_up]
  generalize va_up u1 66 (nI 1) = u4 at hv5 hm6 e_u4 ⊢
  refine ST.lift (fun _ _ k => T_iconst (v := nI 0) d_Mo_key_82 (by decide) k) ?_
  refine S_topi (y := nI 0) (congrArg nI (by omega)) ?_
  exact S_ret d_Mo_key_83 rfl rfl (by decide) (by decide) (hQ _ hv5 hm6 (e_u4.trans (congrArg nI (by omega))))
set_option maxRecDepth 100000 in
set_option maxHeartbeats 4000000 in
theorem c_Mo_key_3_lt (G : GX) (v : Nat → Int32) (y : Int32) (i : Nat) (b_i : i < 64) (hy : y < 0) (hv : okv v) : CS G mi_Mo_key [.ref 373, .int (nI 3), .int y, .int (nI i)] v (fun r v' => r = some (.int (nI 0)) ∧ okv v' ∧ mdf [66] v v' ∧ v' 66 = nI 1) := by
  refine CS.of (by decide) (Nat.le_of_ble_eq_true rfl) ?_
  generalize hQe : (fun (r : Option Value) (v' : Nat → Int32) => r = some (.int (nI 0)) ∧ okv v' ∧ mdf [66] v v' ∧ v' 66 = nI 1) = Q
  have hQ : ∀ u, okv u → mdf [66] v u → u 66 = nI 1 → Q (some (.int (nI 0))) u := by rw [← hQe]; exact fun u h1 h2 f0 => ⟨rfl, h1, h2, f0⟩
  clear hQe
  have hm : mdf [66] v v := mdf.rf
  show ST G mi_Mo_key 0 [(0, .ref 373), (1, .int (nI 3)), (2, .int y), (3, .int (nI i))] [] v 0 0 Q
  refine ST.lift (fun _ _ k => T_aload_n (v := .ref 373) d_Mo_key_0 rfl (Or.inr ⟨_, rfl⟩) k) ?_
  refine ST.lift (fun _ _ k => T_iconst (v := nI 0) d_Mo_key_1 (by decide) k) ?_
  refine S_putfield (v' := va_up v 66 (nI 0)) d_Mo_key_2 (fp_Mo_316 _) (w373 _) (Nat.le_of_ble_eq_true rfl) ⟨rfl, rfl⟩ (u373_0 _ _) ?_
  have hv2 := hv.off (j := 66) (x := (nI 0)) (by decide)
  have hm3 := hm.go (mdf.up (v := v) (j := 66) (x := (nI 0))) (by intro i hi; simp only [List.mem_cons, List.not_mem_nil, or_false] at hi ⊢ <;> omega)
  have e_u1 : (va_up v 66 (nI 0)) 66 = (nI 0) := by simp [va_up]
  generalize va_up v 66 (nI 0) = u1 at hv2 hm3 e_u1 ⊢
  refine ST.lift (fun _ _ k => T_iload_n d_Mo_key_5 rfl k) ?_
  refine S_static (as := [.int (nI 3)]) (rest := []) d_Mo_key_6 rfl (jw_Mo_isSession.jo (by decide)) lm_Mo_545 jt_Mo_isSession rfl (Nat.le_of_ble_eq_true rfl) (by decide) (by decide) (c_Mo_isSession G u1 3 (by omega)) (fun r v' hq => ?_)
  rw [hq.1, hq.2]
  clear hq r v'
  show ST G mi_Mo_key 9 [(0, .ref 373), (1, .int (nI 3)), (2, .int y), (3, .int (nI i))] [.int (nI 1)] u1 0 0 _
  refine S_if_eqN d_Mo_key_9 rfl (by omega) (fun c => by first | exact absurd c (by omega) | exact c.elim | exact absurd c (by decide) | exact absurd (by assumption) c | exact absurd c (by assumption) | exact absurd c (Int32.not_le.mpr (by assumption))) (fun _ => ?_)
  refine ST.lift (fun _ _ k => T_iload_n d_Mo_key_12 rfl k) ?_
  refine S_if_ltN d_Mo_key_13 rfl (by omega) (fun c => by first | exact absurd c (by omega) | exact c.elim | exact absurd c (by decide) | exact absurd (by assumption) c | exact absurd c (by assumption) | exact absurd c (Int32.not_le.mpr (by assumption))) (fun _ => ?_)
  refine ST.lift (fun _ _ k => T_iload_n d_Mo_key_16 rfl k) ?_
  refine ST.lift (fun _ _ k => T_bipush (v := nI 64) d_Mo_key_17 (by decide) k) ?_
  refine S_icmp_geN d_Mo_key_19 rfl (by omega) (by omega) (fun c => by first | exact absurd c (by omega) | exact c.elim | exact absurd c (by decide) | exact absurd (by assumption) c | exact absurd c (by assumption) | exact absurd c (Int32.not_le.mpr (by assumption))) (fun _ => ?_)
  refine ST.lift (fun _ _ k => T_iload_n d_Mo_key_22 rfl k) ?_
  refine S_if_lt d_Mo_key_23 rfl (fun _ => ?_) (fun c => by first | exact absurd c (by omega) | exact c.elim | exact absurd c (by decide) | exact absurd (by assumption) c | exact absurd c (by assumption) | exact absurd c (Int32.not_le.mpr (by assumption)))
  refine ST.lift (fun _ _ k => T_iconst (v := nI 0) d_Mo_key_35 (by decide) k) ?_
  refine ST.lift (fun _ _ k => T_istore (L' := [(4, .int (nI 0)), (0, .ref 373), (1, .int (nI 3)), (2, .int y), (3, .int (nI i))]) d_Mo_key_36 (by decide) rfl k) ?_
  refine ST.lift (fun _ _ k => T_iload d_Mo_key_38 rfl k) ?_
  refine S_if_eqN d_Mo_key_40 rfl (by omega) (fun _ => ?_) (fun c => by first | exact absurd c (by omega) | exact c.elim | exact absurd c (by decide) | exact absurd (by assumption) c | exact absurd c (by assumption) | exact absurd c (Int32.not_le.mpr (by assumption)))
  refine ST.lift (fun _ _ k => T_iload d_Mo_key_59 rfl k) ?_
  refine S_if_eqN d_Mo_key_61 rfl (by omega) (fun _ => ?_) (fun c => by first | exact absurd c (by omega) | exact c.elim | exact absurd c (by decide) | exact absurd (by assumption) c | exact absurd c (by assumption) | exact absurd c (Int32.not_le.mpr (by assumption)))
  refine ST.lift (fun _ _ k => T_iload d_Mo_key_72 rfl k) ?_
  refine S_if_neN d_Mo_key_74 rfl (by omega) (fun c => by first | exact absurd c (by omega) | exact c.elim | exact absurd c (by decide) | exact absurd (by assumption) c | exact absurd c (by assumption) | exact absurd c (Int32.not_le.mpr (by assumption))) (fun _ => ?_)
  refine ST.lift (fun _ _ k => T_aload_n (v := .ref 373) d_Mo_key_77 rfl (Or.inr ⟨_, rfl⟩) k) ?_
  refine ST.lift (fun _ _ k => T_iconst (v := nI 1) d_Mo_key_78 (by decide) k) ?_
  refine S_putfield (v' := va_up u1 66 (nI 1)) d_Mo_key_79 (fp_Mo_316 _) (w373 _) (Nat.le_of_ble_eq_true rfl) ⟨rfl, rfl⟩ (u373_0 _ _) ?_
  have hv5 := hv2.off (j := 66) (x := (nI 1)) (by decide)
  have hm6 := hm3.go (mdf.up (v := u1) (j := 66) (x := (nI 1))) (by intro i hi; simp only [List.mem_cons, List.not_mem_nil, or_false] at hi ⊢ <;> omega)
  have e_u4 : (va_up u1 66 (nI 1)) 66 = (nI 1) := by simp [va_up]
  generalize va_up u1 66 (nI 1) = u4 at hv5 hm6 e_u4 ⊢
  refine ST.lift (fun _ _ k => T_iconst (v := nI 0) d_Mo_key_82 (by decide) k) ?_
  refine S_topi (y := nI 0) (congrArg nI (by omega)) ?_
  exact S_ret d_Mo_key_83 rfl rfl (by decide) (by decide) (hQ _ hv5 hm6 (e_u4.trans (congrArg nI (by omega))))
set_option maxRecDepth 100000 in
set_option maxHeartbeats 4000000 in
theorem c_Mo_key_3_gt (G : GX) (v : Nat → Int32) (y : Int32) (i : Nat) (b_i : i < 64) (h0 : ¬ y < 0) (hy : nI 3 ≤ y) (hv : okv v) : CS G mi_Mo_key [.ref 373, .int (nI 3), .int y, .int (nI i)] v (fun r v' => r = some (.int (nI 0)) ∧ okv v' ∧ mdf [66] v v' ∧ v' 66 = nI 1) := by
  refine CS.of (by decide) (Nat.le_of_ble_eq_true rfl) ?_
  generalize hQe : (fun (r : Option Value) (v' : Nat → Int32) => r = some (.int (nI 0)) ∧ okv v' ∧ mdf [66] v v' ∧ v' 66 = nI 1) = Q
  have hQ : ∀ u, okv u → mdf [66] v u → u 66 = nI 1 → Q (some (.int (nI 0))) u := by rw [← hQe]; exact fun u h1 h2 f0 => ⟨rfl, h1, h2, f0⟩
  clear hQe
  have hm : mdf [66] v v := mdf.rf
  show ST G mi_Mo_key 0 [(0, .ref 373), (1, .int (nI 3)), (2, .int y), (3, .int (nI i))] [] v 0 0 Q
  refine ST.lift (fun _ _ k => T_aload_n (v := .ref 373) d_Mo_key_0 rfl (Or.inr ⟨_, rfl⟩) k) ?_
  refine ST.lift (fun _ _ k => T_iconst (v := nI 0) d_Mo_key_1 (by decide) k) ?_
  refine S_putfield (v' := va_up v 66 (nI 0)) d_Mo_key_2 (fp_Mo_316 _) (w373 _) (Nat.le_of_ble_eq_true rfl) ⟨rfl, rfl⟩ (u373_0 _ _) ?_
  have hv2 := hv.off (j := 66) (x := (nI 0)) (by decide)
  have hm3 := hm.go (mdf.up (v := v) (j := 66) (x := (nI 0))) (by intro i hi; simp only [List.mem_cons, List.not_mem_nil, or_false] at hi ⊢ <;> omega)
  have e_u1 : (va_up v 66 (nI 0)) 66 = (nI 0) := by simp [va_up]
  generalize va_up v 66 (nI 0) = u1 at hv2 hm3 e_u1 ⊢
  refine ST.lift (fun _ _ k => T_iload_n d_Mo_key_5 rfl k) ?_
  refine S_static (as := [.int (nI 3)]) (rest := []) d_Mo_key_6 rfl (jw_Mo_isSession.jo (by decide)) lm_Mo_545 jt_Mo_isSession rfl (Nat.le_of_ble_eq_true rfl) (by decide) (by decide) (c_Mo_isSession G u1 3 (by omega)) (fun r v' hq => ?_)
  rw [hq.1, hq.2]
  clear hq r v'
  show ST G mi_Mo_key 9 [(0, .ref 373), (1, .int (nI 3)), (2, .int y), (3, .int (nI i))] [.int (nI 1)] u1 0 0 _
  refine S_if_eqN d_Mo_key_9 rfl (by omega) (fun c => by first | exact absurd c (by omega) | exact c.elim | exact absurd c (by decide) | exact absurd (by assumption) c | exact absurd c (by assumption) | exact absurd c (Int32.not_le.mpr (by assumption))) (fun _ => ?_)
  refine ST.lift (fun _ _ k => T_iload_n d_Mo_key_12 rfl k) ?_
  refine S_if_ltN d_Mo_key_13 rfl (by omega) (fun c => by first | exact absurd c (by omega) | exact c.elim | exact absurd c (by decide) | exact absurd (by assumption) c | exact absurd c (by assumption) | exact absurd c (Int32.not_le.mpr (by assumption))) (fun _ => ?_)
  refine ST.lift (fun _ _ k => T_iload_n d_Mo_key_16 rfl k) ?_
  refine ST.lift (fun _ _ k => T_bipush (v := nI 64) d_Mo_key_17 (by decide) k) ?_
  refine S_icmp_geN d_Mo_key_19 rfl (by omega) (by omega) (fun c => by first | exact absurd c (by omega) | exact c.elim | exact absurd c (by decide) | exact absurd (by assumption) c | exact absurd c (by assumption) | exact absurd c (Int32.not_le.mpr (by assumption))) (fun _ => ?_)
  refine ST.lift (fun _ _ k => T_iload_n d_Mo_key_22 rfl k) ?_
  refine S_if_lt d_Mo_key_23 rfl (fun c => by first | exact absurd c (by omega) | exact c.elim | exact absurd c (by decide) | exact absurd (by assumption) c | exact absurd c (by assumption) | exact absurd c (Int32.not_le.mpr (by assumption))) (fun _ => ?_)
  refine ST.lift (fun _ _ k => T_iload_n d_Mo_key_26 rfl k) ?_
  refine ST.lift (fun _ _ k => T_iconst (v := nI 3) d_Mo_key_27 (by decide) k) ?_
  refine S_icmp_ge d_Mo_key_28 rfl (fun _ => ?_) (fun c => by first | exact absurd c (by omega) | exact c.elim | exact absurd c (by decide) | exact absurd (by assumption) c | exact absurd c (by assumption) | exact absurd c (Int32.not_le.mpr (by assumption)))
  refine ST.lift (fun _ _ k => T_iconst (v := nI 0) d_Mo_key_35 (by decide) k) ?_
  refine ST.lift (fun _ _ k => T_istore (L' := [(4, .int (nI 0)), (0, .ref 373), (1, .int (nI 3)), (2, .int y), (3, .int (nI i))]) d_Mo_key_36 (by decide) rfl k) ?_
  refine ST.lift (fun _ _ k => T_iload d_Mo_key_38 rfl k) ?_
  refine S_if_eqN d_Mo_key_40 rfl (by omega) (fun _ => ?_) (fun c => by first | exact absurd c (by omega) | exact c.elim | exact absurd c (by decide) | exact absurd (by assumption) c | exact absurd c (by assumption) | exact absurd c (Int32.not_le.mpr (by assumption)))
  refine ST.lift (fun _ _ k => T_iload d_Mo_key_59 rfl k) ?_
  refine S_if_eqN d_Mo_key_61 rfl (by omega) (fun _ => ?_) (fun c => by first | exact absurd c (by omega) | exact c.elim | exact absurd c (by decide) | exact absurd (by assumption) c | exact absurd c (by assumption) | exact absurd c (Int32.not_le.mpr (by assumption)))
  refine ST.lift (fun _ _ k => T_iload d_Mo_key_72 rfl k) ?_
  refine S_if_neN d_Mo_key_74 rfl (by omega) (fun c => by first | exact absurd c (by omega) | exact c.elim | exact absurd c (by decide) | exact absurd (by assumption) c | exact absurd c (by assumption) | exact absurd c (Int32.not_le.mpr (by assumption))) (fun _ => ?_)
  refine ST.lift (fun _ _ k => T_aload_n (v := .ref 373) d_Mo_key_77 rfl (Or.inr ⟨_, rfl⟩) k) ?_
  refine ST.lift (fun _ _ k => T_iconst (v := nI 1) d_Mo_key_78 (by decide) k) ?_
  refine S_putfield (v' := va_up u1 66 (nI 1)) d_Mo_key_79 (fp_Mo_316 _) (w373 _) (Nat.le_of_ble_eq_true rfl) ⟨rfl, rfl⟩ (u373_0 _ _) ?_
  have hv5 := hv2.off (j := 66) (x := (nI 1)) (by decide)
  have hm6 := hm3.go (mdf.up (v := u1) (j := 66) (x := (nI 1))) (by intro i hi; simp only [List.mem_cons, List.not_mem_nil, or_false] at hi ⊢ <;> omega)
  have e_u4 : (va_up u1 66 (nI 1)) 66 = (nI 1) := by simp [va_up]
  generalize va_up u1 66 (nI 1) = u4 at hv5 hm6 e_u4 ⊢
  refine ST.lift (fun _ _ k => T_iconst (v := nI 0) d_Mo_key_82 (by decide) k) ?_
  refine S_topi (y := nI 0) (congrArg nI (by omega)) ?_
  exact S_ret d_Mo_key_83 rfl rfl (by decide) (by decide) (hQ _ hv5 hm6 (e_u4.trans (congrArg nI (by omega))))
set_option maxRecDepth 100000 in
set_option maxHeartbeats 4000000 in
theorem c_Mo_key_3_0 (G : GX) (v : Nat → Int32) (i : Nat) (b_i : i < 64) (hv : okv v) : CS G mi_Mo_key [.ref 373, .int (nI 3), .int (nI 0), .int (nI i)] v (fun r v' => ∃ z : Int32, r = some (.int z) ∧ okv v' ∧ mdf [66] v v') := by
  refine CS.of (by decide) (Nat.le_of_ble_eq_true rfl) ?_
  generalize hQe : (fun (r : Option Value) (v' : Nat → Int32) => ∃ z : Int32, r = some (.int z) ∧ okv v' ∧ mdf [66] v v') = Q
  have hQ : ∀ (z : Int32) (u : Nat → Int32), okv u → mdf [66] v u → Q (some (.int z)) u := by rw [← hQe]; exact fun z u h1 h2  => ⟨z, rfl, h1, h2⟩
  clear hQe
  have hm : mdf [66] v v := mdf.rf
  show ST G mi_Mo_key 0 [(0, .ref 373), (1, .int (nI 3)), (2, .int (nI 0)), (3, .int (nI i))] [] v 0 0 Q
  refine ST.lift (fun _ _ k => T_aload_n (v := .ref 373) d_Mo_key_0 rfl (Or.inr ⟨_, rfl⟩) k) ?_
  refine ST.lift (fun _ _ k => T_iconst (v := nI 0) d_Mo_key_1 (by decide) k) ?_
  refine S_putfield (v' := va_up v 66 (nI 0)) d_Mo_key_2 (fp_Mo_316 _) (w373 _) (Nat.le_of_ble_eq_true rfl) ⟨rfl, rfl⟩ (u373_0 _ _) ?_
  have hv2 := hv.off (j := 66) (x := (nI 0)) (by decide)
  have hm3 := hm.go (mdf.up (v := v) (j := 66) (x := (nI 0))) (by intro i hi; simp only [List.mem_cons, List.not_mem_nil, or_false] at hi ⊢ <;> omega)
  have e_u1 : (va_up v 66 (nI 0)) 66 = (nI 0) := by simp [va_up]
  generalize va_up v 66 (nI 0) = u1 at hv2 hm3 e_u1 ⊢
  refine ST.lift (fun _ _ k => T_iload_n d_Mo_key_5 rfl k) ?_
  refine S_static (as := [.int (nI 3)]) (rest := []) d_Mo_key_6 rfl (jw_Mo_isSession.jo (by decide)) lm_Mo_545 jt_Mo_isSession rfl (Nat.le_of_ble_eq_true rfl) (by decide) (by decide) (c_Mo_isSession G u1 3 (by omega)) (fun r v' hq => ?_)
  rw [hq.1, hq.2]
  clear hq r v'
  show ST G mi_Mo_key 9 [(0, .ref 373), (1, .int (nI 3)), (2, .int (nI 0)), (3, .int (nI i))] [.int (nI 1)] u1 0 0 _
  refine S_if_eqN d_Mo_key_9 rfl (by omega) (fun c => by first | exact absurd c (by omega) | exact c.elim | exact absurd c (by decide) | exact absurd (by assumption) c | exact absurd c (by assumption) | exact absurd c (Int32.not_le.mpr (by assumption))) (fun _ => ?_)
  refine ST.lift (fun _ _ k => T_iload_n d_Mo_key_12 rfl k) ?_
  refine S_if_ltN d_Mo_key_13 rfl (by omega) (fun c => by first | exact absurd c (by omega) | exact c.elim | exact absurd c (by decide) | exact absurd (by assumption) c | exact absurd c (by assumption) | exact absurd c (Int32.not_le.mpr (by assumption))) (fun _ => ?_)
  refine ST.lift (fun _ _ k => T_iload_n d_Mo_key_16 rfl k) ?_
  refine ST.lift (fun _ _ k => T_bipush (v := nI 64) d_Mo_key_17 (by decide) k) ?_
  have J36_6 : ∀ (z5 : Nat) (hz5 : z5 ≤ 1), ST G mi_Mo_key 36 [(0, .ref 373), (1, .int (nI 3)), (2, .int (nI 0)), (3, .int (nI i))] [.int (nI z5)] u1 0 0 Q := by
    intro z5 hz5
    refine ST.lift (fun _ _ k => T_istore (L' := [(4, .int (nI z5)), (0, .ref 373), (1, .int (nI 3)), (2, .int (nI 0)), (3, .int (nI i))]) d_Mo_key_36 (by decide) rfl k) ?_
    refine ST.lift (fun _ _ k => T_iload d_Mo_key_38 rfl k) ?_
    have J72_11 : ∀ (z10 : Int32), ST G mi_Mo_key 72 [(4, .int z10), (0, .ref 373), (1, .int (nI 3)), (2, .int (nI 0)), (3, .int (nI i))] [] u1 0 0 Q := by
      intro z10
      refine ST.lift (fun _ _ k => T_iload d_Mo_key_72 rfl k) ?_
      refine S_if_ne d_Mo_key_74 rfl (fun c12 => ?_) (fun c12 => ?_)
      · refine ST.lift (fun _ _ k => T_iload_n d_Mo_key_84 rfl k) ?_
        refine S_if_neN d_Mo_key_85 rfl (by omega) (fun c => by first | exact absurd c (by omega) | exact c.elim | exact absurd c (by decide) | exact absurd (by assumption) c | exact absurd c (by assumption) | exact absurd c (Int32.not_le.mpr (by assumption))) (fun _ => ?_)
        refine ST.lift (fun _ _ k => T_aload_n (v := .ref 373) d_Mo_key_88 rfl (Or.inr ⟨_, rfl⟩) k) ?_
        refine S_getfield d_Mo_key_89 fg_Mo_431 (w373 _) rfl ?_
        refine ST.lift (fun _ _ k => T_bipush (v := nI 64) d_Mo_key_92 (by decide) k) ?_
        refine ST.lift (fun _ _ k => T_iload_n d_Mo_key_94 rfl k) ?_
        refine S_imulN d_Mo_key_95 ?_
        refine S_topi (y := nI 192) (by decide) ?_
        refine ST.lift (fun _ _ k => T_iload_n d_Mo_key_96 rfl k) ?_
        refine S_iaddN d_Mo_key_97 ?_
        refine S_iaload d_Mo_key_98 a437 (vp_in_nI (by omega) (by omega)) (fun z13 => ?_)
        exact S_ret d_Mo_key_99 rfl rfl (by decide) (by decide) (hQ _ _ hv2 hm3)
      · refine ST.lift (fun _ _ k => T_aload_n (v := .ref 373) d_Mo_key_77 rfl (Or.inr ⟨_, rfl⟩) k) ?_
        refine ST.lift (fun _ _ k => T_iconst (v := nI 1) d_Mo_key_78 (by decide) k) ?_
        refine S_putfield (v' := va_up u1 66 (nI 1)) d_Mo_key_79 (fp_Mo_316 _) (w373 _) (Nat.le_of_ble_eq_true rfl) ⟨rfl, rfl⟩ (u373_0 _ _) ?_
        have hv15 := hv2.off (j := 66) (x := (nI 1)) (by decide)
        have hm16 := hm3.go (mdf.up (v := u1) (j := 66) (x := (nI 1))) (by intro i hi; simp only [List.mem_cons, List.not_mem_nil, or_false] at hi ⊢ <;> omega)
        have e_u14 : (va_up u1 66 (nI 1)) 66 = (nI 1) := by simp [va_up]
        generalize va_up u1 66 (nI 1) = u14 at hv15 hm16 e_u14 ⊢
        refine ST.lift (fun _ _ k => T_iconst (v := nI 0) d_Mo_key_82 (by decide) k) ?_
        exact S_ret d_Mo_key_83 rfl rfl (by decide) (by decide) (hQ _ _ hv15 hm16)
    refine S_if_eqN d_Mo_key_40 rfl (by omega) (fun c7 => ?_) (fun c7 => ?_)
    · refine ST.lift (fun _ _ k => T_iload d_Mo_key_59 rfl k) ?_
      refine S_if_eqN d_Mo_key_61 rfl (by omega) (fun c17 => ?_) (fun c17 => ?_)
      · exact J72_11 (nI z5)
      · refine ST.lift (fun _ _ k => T_aload_n (v := .ref 373) d_Mo_key_64 rfl (Or.inr ⟨_, rfl⟩) k) ?_
        refine S_getfield d_Mo_key_65 fg_Mo_410 (w373 _) rfl ?_
        refine ST.lift (fun _ _ k => T_iload_n d_Mo_key_68 rfl k) ?_
        refine S_xload (t := 3) (k := 3) (Or.inr ⟨rfl, d_Mo_key_69⟩) rfl (w430 _) (by decide) (by decide) ?_
        refine S_topi (y := u1 123) rfl ?_
        refine ST.lift (fun _ _ k => T_istore (L' := [(4, .int (u1 123)), (0, .ref 373), (1, .int (nI 3)), (2, .int (nI 0)), (3, .int (nI i))]) d_Mo_key_70 (by decide) rfl k) ?_
        exact J72_11 (u1 123)
    · refine ST.lift (fun _ _ k => T_iload_n d_Mo_key_43 rfl k) ?_
      refine ST.lift (fun _ _ k => T_iconst (v := nI 1) d_Mo_key_44 (by decide) k) ?_
      refine S_icmp_neN d_Mo_key_45 rfl (by omega) (by omega) (fun _ => ?_) (fun c => by first | exact absurd c (by omega) | exact c.elim | exact absurd c (by decide) | exact absurd (by assumption) c | exact absurd c (by assumption) | exact absurd c (Int32.not_le.mpr (by assumption)))
      refine ST.lift (fun _ _ k => T_iload d_Mo_key_59 rfl k) ?_
      refine S_if_eqN d_Mo_key_61 rfl (by omega) (fun c18 => ?_) (fun c18 => ?_)
      · exact J72_11 (nI z5)
      · refine ST.lift (fun _ _ k => T_aload_n (v := .ref 373) d_Mo_key_64 rfl (Or.inr ⟨_, rfl⟩) k) ?_
        refine S_getfield d_Mo_key_65 fg_Mo_410 (w373 _) rfl ?_
        refine ST.lift (fun _ _ k => T_iload_n d_Mo_key_68 rfl k) ?_
        refine S_xload (t := 3) (k := 3) (Or.inr ⟨rfl, d_Mo_key_69⟩) rfl (w430 _) (by decide) (by decide) ?_
        refine S_topi (y := u1 123) rfl ?_
        refine ST.lift (fun _ _ k => T_istore (L' := [(4, .int (u1 123)), (0, .ref 373), (1, .int (nI 3)), (2, .int (nI 0)), (3, .int (nI i))]) d_Mo_key_70 (by decide) rfl k) ?_
        exact J72_11 (u1 123)
  refine S_icmp_geN d_Mo_key_19 rfl (by omega) (by omega) (fun c4 => ?_) (fun c4 => ?_)
  · refine ST.lift (fun _ _ k => T_iconst (v := nI 0) d_Mo_key_35 (by decide) k) ?_
    exact J36_6 0 (by omega)
  · refine ST.lift (fun _ _ k => T_iload_n d_Mo_key_22 rfl k) ?_
    refine S_if_ltN d_Mo_key_23 rfl (by omega) (fun c => by first | exact absurd c (by omega) | exact c.elim | exact absurd c (by decide) | exact absurd (by assumption) c | exact absurd c (by assumption) | exact absurd c (Int32.not_le.mpr (by assumption))) (fun _ => ?_)
    refine ST.lift (fun _ _ k => T_iload_n d_Mo_key_26 rfl k) ?_
    refine ST.lift (fun _ _ k => T_iconst (v := nI 3) d_Mo_key_27 (by decide) k) ?_
    refine S_icmp_geN d_Mo_key_28 rfl (by omega) (by omega) (fun c => by first | exact absurd c (by omega) | exact c.elim | exact absurd c (by decide) | exact absurd (by assumption) c | exact absurd c (by assumption) | exact absurd c (Int32.not_le.mpr (by assumption))) (fun _ => ?_)
    refine ST.lift (fun _ _ k => T_iconst (v := nI 1) d_Mo_key_31 (by decide) k) ?_
    refine ST.lift (fun _ _ k => T_goto (tgt := 36) d_Mo_key_32 rfl k) ?_
    exact J36_6 1 (by omega)
set_option maxRecDepth 100000 in
set_option maxHeartbeats 4000000 in
theorem c_Mo_key_3_0_not (G : GX) (v : Nat → Int32) (i : Nat) (b_i : i < 64) (e123 : v 123 = nI 0) (hv : okv v) : CS G mi_Mo_key [.ref 373, .int (nI 3), .int (nI 0), .int (nI i)] v (fun r v' => r = some (.int (nI 0)) ∧ okv v' ∧ mdf [66] v v' ∧ v' 66 = nI 1) := by
  refine CS.of (by decide) (Nat.le_of_ble_eq_true rfl) ?_
  generalize hQe : (fun (r : Option Value) (v' : Nat → Int32) => r = some (.int (nI 0)) ∧ okv v' ∧ mdf [66] v v' ∧ v' 66 = nI 1) = Q
  have hQ : ∀ u, okv u → mdf [66] v u → u 66 = nI 1 → Q (some (.int (nI 0))) u := by rw [← hQe]; exact fun u h1 h2 f0 => ⟨rfl, h1, h2, f0⟩
  clear hQe
  have hm : mdf [66] v v := mdf.rf
  show ST G mi_Mo_key 0 [(0, .ref 373), (1, .int (nI 3)), (2, .int (nI 0)), (3, .int (nI i))] [] v 0 0 Q
  refine ST.lift (fun _ _ k => T_aload_n (v := .ref 373) d_Mo_key_0 rfl (Or.inr ⟨_, rfl⟩) k) ?_
  refine ST.lift (fun _ _ k => T_iconst (v := nI 0) d_Mo_key_1 (by decide) k) ?_
  refine S_putfield (v' := va_up v 66 (nI 0)) d_Mo_key_2 (fp_Mo_316 _) (w373 _) (Nat.le_of_ble_eq_true rfl) ⟨rfl, rfl⟩ (u373_0 _ _) ?_
  have hv2 := hv.off (j := 66) (x := (nI 0)) (by decide)
  have hm3 := hm.go (mdf.up (v := v) (j := 66) (x := (nI 0))) (by intro i hi; simp only [List.mem_cons, List.not_mem_nil, or_false] at hi ⊢ <;> omega)
  have e_u1 : (va_up v 66 (nI 0)) 66 = (nI 0) := by simp [va_up]
  have e4 : (va_up v 66 (nI 0)) 123 = nI 0 := by simp only [va_up]; exact e123
  generalize va_up v 66 (nI 0) = u1 at hv2 hm3 e_u1 e4 ⊢
  refine ST.lift (fun _ _ k => T_iload_n d_Mo_key_5 rfl k) ?_
  refine S_static (as := [.int (nI 3)]) (rest := []) d_Mo_key_6 rfl (jw_Mo_isSession.jo (by decide)) lm_Mo_545 jt_Mo_isSession rfl (Nat.le_of_ble_eq_true rfl) (by decide) (by decide) (c_Mo_isSession G u1 3 (by omega)) (fun r v' hq => ?_)
  rw [hq.1, hq.2]
  clear hq r v'
  show ST G mi_Mo_key 9 [(0, .ref 373), (1, .int (nI 3)), (2, .int (nI 0)), (3, .int (nI i))] [.int (nI 1)] u1 0 0 _
  refine S_if_eqN d_Mo_key_9 rfl (by omega) (fun c => by first | exact absurd c (by omega) | exact c.elim | exact absurd c (by decide) | exact absurd (by assumption) c | exact absurd c (by assumption) | exact absurd c (Int32.not_le.mpr (by assumption))) (fun _ => ?_)
  refine ST.lift (fun _ _ k => T_iload_n d_Mo_key_12 rfl k) ?_
  refine S_if_ltN d_Mo_key_13 rfl (by omega) (fun c => by first | exact absurd c (by omega) | exact c.elim | exact absurd c (by decide) | exact absurd (by assumption) c | exact absurd c (by assumption) | exact absurd c (Int32.not_le.mpr (by assumption))) (fun _ => ?_)
  refine ST.lift (fun _ _ k => T_iload_n d_Mo_key_16 rfl k) ?_
  refine ST.lift (fun _ _ k => T_bipush (v := nI 64) d_Mo_key_17 (by decide) k) ?_
  refine S_icmp_geN d_Mo_key_19 rfl (by omega) (by omega) (fun c => by first | exact absurd c (by omega) | exact c.elim | exact absurd c (by decide) | exact absurd (by assumption) c | exact absurd c (by assumption) | exact absurd c (Int32.not_le.mpr (by assumption))) (fun _ => ?_)
  refine ST.lift (fun _ _ k => T_iload_n d_Mo_key_22 rfl k) ?_
  refine S_if_ltN d_Mo_key_23 rfl (by omega) (fun c => by first | exact absurd c (by omega) | exact c.elim | exact absurd c (by decide) | exact absurd (by assumption) c | exact absurd c (by assumption) | exact absurd c (Int32.not_le.mpr (by assumption))) (fun _ => ?_)
  refine ST.lift (fun _ _ k => T_iload_n d_Mo_key_26 rfl k) ?_
  refine ST.lift (fun _ _ k => T_iconst (v := nI 3) d_Mo_key_27 (by decide) k) ?_
  refine S_icmp_geN d_Mo_key_28 rfl (by omega) (by omega) (fun c => by first | exact absurd c (by omega) | exact c.elim | exact absurd c (by decide) | exact absurd (by assumption) c | exact absurd c (by assumption) | exact absurd c (Int32.not_le.mpr (by assumption))) (fun _ => ?_)
  refine ST.lift (fun _ _ k => T_iconst (v := nI 1) d_Mo_key_31 (by decide) k) ?_
  refine ST.lift (fun _ _ k => T_goto (tgt := 36) d_Mo_key_32 rfl k) ?_
  refine ST.lift (fun _ _ k => T_istore (L' := [(4, .int (nI 1)), (0, .ref 373), (1, .int (nI 3)), (2, .int (nI 0)), (3, .int (nI i))]) d_Mo_key_36 (by decide) rfl k) ?_
  refine ST.lift (fun _ _ k => T_iload d_Mo_key_38 rfl k) ?_
  refine S_if_eqN d_Mo_key_40 rfl (by omega) (fun c => by first | exact absurd c (by omega) | exact c.elim | exact absurd c (by decide) | exact absurd (by assumption) c | exact absurd c (by assumption) | exact absurd c (Int32.not_le.mpr (by assumption))) (fun _ => ?_)
  refine ST.lift (fun _ _ k => T_iload_n d_Mo_key_43 rfl k) ?_
  refine ST.lift (fun _ _ k => T_iconst (v := nI 1) d_Mo_key_44 (by decide) k) ?_
  refine S_icmp_neN d_Mo_key_45 rfl (by omega) (by omega) (fun _ => ?_) (fun c => by first | exact absurd c (by omega) | exact c.elim | exact absurd c (by decide) | exact absurd (by assumption) c | exact absurd c (by assumption) | exact absurd c (Int32.not_le.mpr (by assumption)))
  refine ST.lift (fun _ _ k => T_iload d_Mo_key_59 rfl k) ?_
  refine S_if_eqN d_Mo_key_61 rfl (by omega) (fun c => by first | exact absurd c (by omega) | exact c.elim | exact absurd c (by decide) | exact absurd (by assumption) c | exact absurd c (by assumption) | exact absurd c (Int32.not_le.mpr (by assumption))) (fun _ => ?_)
  refine ST.lift (fun _ _ k => T_aload_n (v := .ref 373) d_Mo_key_64 rfl (Or.inr ⟨_, rfl⟩) k) ?_
  refine S_getfield d_Mo_key_65 fg_Mo_410 (w373 _) rfl ?_
  refine ST.lift (fun _ _ k => T_iload_n d_Mo_key_68 rfl k) ?_
  refine S_xload (t := 3) (k := 3) (Or.inr ⟨rfl, d_Mo_key_69⟩) rfl (w430 _) (by decide) (by decide) ?_
  refine S_topi (y := u1 123) rfl ?_
  refine S_topi (y := nI 0) (e4) ?_
  refine ST.lift (fun _ _ k => T_istore (L' := [(4, .int (nI 0)), (0, .ref 373), (1, .int (nI 3)), (2, .int (nI 0)), (3, .int (nI i))]) d_Mo_key_70 (by decide) rfl k) ?_
  refine ST.lift (fun _ _ k => T_iload d_Mo_key_72 rfl k) ?_
  refine S_if_neN d_Mo_key_74 rfl (by omega) (fun c => by first | exact absurd c (by omega) | exact c.elim | exact absurd c (by decide) | exact absurd (by assumption) c | exact absurd c (by assumption) | exact absurd c (Int32.not_le.mpr (by assumption))) (fun _ => ?_)
  refine ST.lift (fun _ _ k => T_aload_n (v := .ref 373) d_Mo_key_77 rfl (Or.inr ⟨_, rfl⟩) k) ?_
  refine ST.lift (fun _ _ k => T_iconst (v := nI 1) d_Mo_key_78 (by decide) k) ?_
  refine S_putfield (v' := va_up u1 66 (nI 1)) d_Mo_key_79 (fp_Mo_316 _) (w373 _) (Nat.le_of_ble_eq_true rfl) ⟨rfl, rfl⟩ (u373_0 _ _) ?_
  have hv6 := hv2.off (j := 66) (x := (nI 1)) (by decide)
  have hm7 := hm3.go (mdf.up (v := u1) (j := 66) (x := (nI 1))) (by intro i hi; simp only [List.mem_cons, List.not_mem_nil, or_false] at hi ⊢ <;> omega)
  have e_u5 : (va_up u1 66 (nI 1)) 66 = (nI 1) := by simp [va_up]
  have e8 : (va_up u1 66 (nI 1)) 123 = nI 0 := by simp only [va_up]; exact e4
  generalize va_up u1 66 (nI 1) = u5 at hv6 hm7 e_u5 e8 ⊢
  refine ST.lift (fun _ _ k => T_iconst (v := nI 0) d_Mo_key_82 (by decide) k) ?_
  refine S_topi (y := nI 0) (congrArg nI (by omega)) ?_
  exact S_ret d_Mo_key_83 rfl rfl (by decide) (by decide) (hQ _ hv6 hm7 (e_u5.trans (congrArg nI (by omega))))
set_option maxRecDepth 100000 in
set_option maxHeartbeats 4000000 in
theorem c_Mo_key_3_1 (G : GX) (v : Nat → Int32) (i : Nat) (b_i : i < 64) (hv : okv v) : CS G mi_Mo_key [.ref 373, .int (nI 3), .int (nI 1), .int (nI i)] v (fun r v' => ∃ z : Int32, r = some (.int z) ∧ okv v' ∧ mdf [66] v v') := by
  refine CS.of (by decide) (Nat.le_of_ble_eq_true rfl) ?_
  generalize hQe : (fun (r : Option Value) (v' : Nat → Int32) => ∃ z : Int32, r = some (.int z) ∧ okv v' ∧ mdf [66] v v') = Q
  have hQ : ∀ (z : Int32) (u : Nat → Int32), okv u → mdf [66] v u → Q (some (.int z)) u := by rw [← hQe]; exact fun z u h1 h2  => ⟨z, rfl, h1, h2⟩
  clear hQe
  have hm : mdf [66] v v := mdf.rf
  show ST G mi_Mo_key 0 [(0, .ref 373), (1, .int (nI 3)), (2, .int (nI 1)), (3, .int (nI i))] [] v 0 0 Q
  refine ST.lift (fun _ _ k => T_aload_n (v := .ref 373) d_Mo_key_0 rfl (Or.inr ⟨_, rfl⟩) k) ?_
  refine ST.lift (fun _ _ k => T_iconst (v := nI 0) d_Mo_key_1 (by decide) k) ?_
  refine S_putfield (v' := va_up v 66 (nI 0)) d_Mo_key_2 (fp_Mo_316 _) (w373 _) (Nat.le_of_ble_eq_true rfl) ⟨rfl, rfl⟩ (u373_0 _ _) ?_
  have hv2 := hv.off (j := 66) (x := (nI 0)) (by decide)
  have hm3 := hm.go (mdf.up (v := v) (j := 66) (x := (nI 0))) (by intro i hi; simp only [List.mem_cons, List.not_mem_nil, or_false] at hi ⊢ <;> omega)
  have e_u1 : (va_up v 66 (nI 0)) 66 = (nI 0) := by simp [va_up]
  generalize va_up v 66 (nI 0) = u1 at hv2 hm3 e_u1 ⊢
  refine ST.lift (fun _ _ k => T_iload_n d_Mo_key_5 rfl k) ?_
  refine S_static (as := [.int (nI 3)]) (rest := []) d_Mo_key_6 rfl (jw_Mo_isSession.jo (by decide)) lm_Mo_545 jt_Mo_isSession rfl (Nat.le_of_ble_eq_true rfl) (by decide) (by decide) (c_Mo_isSession G u1 3 (by omega)) (fun r v' hq => ?_)
  rw [hq.1, hq.2]
  clear hq r v'
  show ST G mi_Mo_key 9 [(0, .ref 373), (1, .int (nI 3)), (2, .int (nI 1)), (3, .int (nI i))] [.int (nI 1)] u1 0 0 _
  refine S_if_eqN d_Mo_key_9 rfl (by omega) (fun c => by first | exact absurd c (by omega) | exact c.elim | exact absurd c (by decide) | exact absurd (by assumption) c | exact absurd c (by assumption) | exact absurd c (Int32.not_le.mpr (by assumption))) (fun _ => ?_)
  refine ST.lift (fun _ _ k => T_iload_n d_Mo_key_12 rfl k) ?_
  refine S_if_ltN d_Mo_key_13 rfl (by omega) (fun c => by first | exact absurd c (by omega) | exact c.elim | exact absurd c (by decide) | exact absurd (by assumption) c | exact absurd c (by assumption) | exact absurd c (Int32.not_le.mpr (by assumption))) (fun _ => ?_)
  refine ST.lift (fun _ _ k => T_iload_n d_Mo_key_16 rfl k) ?_
  refine ST.lift (fun _ _ k => T_bipush (v := nI 64) d_Mo_key_17 (by decide) k) ?_
  have J36_6 : ∀ (z5 : Nat) (hz5 : z5 ≤ 1), ST G mi_Mo_key 36 [(0, .ref 373), (1, .int (nI 3)), (2, .int (nI 1)), (3, .int (nI i))] [.int (nI z5)] u1 0 0 Q := by
    intro z5 hz5
    refine ST.lift (fun _ _ k => T_istore (L' := [(4, .int (nI z5)), (0, .ref 373), (1, .int (nI 3)), (2, .int (nI 1)), (3, .int (nI i))]) d_Mo_key_36 (by decide) rfl k) ?_
    refine ST.lift (fun _ _ k => T_iload d_Mo_key_38 rfl k) ?_
    have J72_10 : ∀ (z9 : Int32), ST G mi_Mo_key 72 [(4, .int z9), (0, .ref 373), (1, .int (nI 3)), (2, .int (nI 1)), (3, .int (nI i))] [] u1 0 0 Q := by
      intro z9
      refine ST.lift (fun _ _ k => T_iload d_Mo_key_72 rfl k) ?_
      refine S_if_ne d_Mo_key_74 rfl (fun c11 => ?_) (fun c11 => ?_)
      · refine ST.lift (fun _ _ k => T_iload_n d_Mo_key_84 rfl k) ?_
        refine S_if_neN d_Mo_key_85 rfl (by omega) (fun _ => ?_) (fun c => by first | exact absurd c (by omega) | exact c.elim | exact absurd c (by decide) | exact absurd (by assumption) c | exact absurd c (by assumption) | exact absurd c (Int32.not_le.mpr (by assumption)))
        refine ST.lift (fun _ _ k => T_iload_n d_Mo_key_100 rfl k) ?_
        refine ST.lift (fun _ _ k => T_iconst (v := nI 1) d_Mo_key_101 (by decide) k) ?_
        refine S_icmp_neN d_Mo_key_102 rfl (by omega) (by omega) (fun c => by first | exact absurd c (by omega) | exact c.elim | exact absurd c (by decide) | exact absurd (by assumption) c | exact absurd c (by assumption) | exact absurd c (Int32.not_le.mpr (by assumption))) (fun _ => ?_)
        refine ST.lift (fun _ _ k => T_aload_n (v := .ref 373) d_Mo_key_105 rfl (Or.inr ⟨_, rfl⟩) k) ?_
        refine S_getfield d_Mo_key_106 fg_Mo_434 (w373 _) rfl ?_
        refine ST.lift (fun _ _ k => T_bipush (v := nI 64) d_Mo_key_109 (by decide) k) ?_
        refine ST.lift (fun _ _ k => T_iload_n d_Mo_key_111 rfl k) ?_
        refine S_imulN d_Mo_key_112 ?_
        refine S_topi (y := nI 192) (by decide) ?_
        refine ST.lift (fun _ _ k => T_iload_n d_Mo_key_113 rfl k) ?_
        refine S_iaddN d_Mo_key_114 ?_
        refine S_iaload d_Mo_key_115 a438 (vp_in_nI (by omega) (by omega)) (fun z12 => ?_)
        exact S_ret d_Mo_key_116 rfl rfl (by decide) (by decide) (hQ _ _ hv2 hm3)
      · refine ST.lift (fun _ _ k => T_aload_n (v := .ref 373) d_Mo_key_77 rfl (Or.inr ⟨_, rfl⟩) k) ?_
        refine ST.lift (fun _ _ k => T_iconst (v := nI 1) d_Mo_key_78 (by decide) k) ?_
        refine S_putfield (v' := va_up u1 66 (nI 1)) d_Mo_key_79 (fp_Mo_316 _) (w373 _) (Nat.le_of_ble_eq_true rfl) ⟨rfl, rfl⟩ (u373_0 _ _) ?_
        have hv14 := hv2.off (j := 66) (x := (nI 1)) (by decide)
        have hm15 := hm3.go (mdf.up (v := u1) (j := 66) (x := (nI 1))) (by intro i hi; simp only [List.mem_cons, List.not_mem_nil, or_false] at hi ⊢ <;> omega)
        have e_u13 : (va_up u1 66 (nI 1)) 66 = (nI 1) := by simp [va_up]
        generalize va_up u1 66 (nI 1) = u13 at hv14 hm15 e_u13 ⊢
        refine ST.lift (fun _ _ k => T_iconst (v := nI 0) d_Mo_key_82 (by decide) k) ?_
        exact S_ret d_Mo_key_83 rfl rfl (by decide) (by decide) (hQ _ _ hv14 hm15)
    refine S_if_eqN d_Mo_key_40 rfl (by omega) (fun c7 => ?_) (fun c7 => ?_)
    · refine ST.lift (fun _ _ k => T_iload d_Mo_key_59 rfl k) ?_
      refine S_if_eqN d_Mo_key_61 rfl (by omega) (fun c16 => ?_) (fun c16 => ?_)
      · exact J72_10 (nI z5)
      · refine ST.lift (fun _ _ k => T_aload_n (v := .ref 373) d_Mo_key_64 rfl (Or.inr ⟨_, rfl⟩) k) ?_
        refine S_getfield d_Mo_key_65 fg_Mo_410 (w373 _) rfl ?_
        refine ST.lift (fun _ _ k => T_iload_n d_Mo_key_68 rfl k) ?_
        refine S_xload (t := 3) (k := 3) (Or.inr ⟨rfl, d_Mo_key_69⟩) rfl (w430 _) (by decide) (by decide) ?_
        refine S_topi (y := u1 123) rfl ?_
        refine ST.lift (fun _ _ k => T_istore (L' := [(4, .int (u1 123)), (0, .ref 373), (1, .int (nI 3)), (2, .int (nI 1)), (3, .int (nI i))]) d_Mo_key_70 (by decide) rfl k) ?_
        exact J72_10 (u1 123)
    · refine ST.lift (fun _ _ k => T_iload_n d_Mo_key_43 rfl k) ?_
      refine ST.lift (fun _ _ k => T_iconst (v := nI 1) d_Mo_key_44 (by decide) k) ?_
      refine S_icmp_neN d_Mo_key_45 rfl (by omega) (by omega) (fun c => by first | exact absurd c (by omega) | exact c.elim | exact absurd c (by decide) | exact absurd (by assumption) c | exact absurd c (by assumption) | exact absurd c (Int32.not_le.mpr (by assumption))) (fun _ => ?_)
      refine ST.lift (fun _ _ k => T_aload_n (v := .ref 373) d_Mo_key_48 rfl (Or.inr ⟨_, rfl⟩) k) ?_
      refine S_getfield d_Mo_key_49 fg_Mo_413 (w373 _) rfl ?_
      refine ST.lift (fun _ _ k => T_iload_n d_Mo_key_52 rfl k) ?_
      refine S_xload (t := 3) (k := 3) (Or.inr ⟨rfl, d_Mo_key_53⟩) rfl (w431 _) (by decide) (by decide) ?_
      refine S_topi (y := u1 127) rfl ?_
      refine ST.lift (fun _ _ k => T_istore (L' := [(4, .int (u1 127)), (0, .ref 373), (1, .int (nI 3)), (2, .int (nI 1)), (3, .int (nI i))]) d_Mo_key_54 (by decide) rfl k) ?_
      refine ST.lift (fun _ _ k => T_goto (tgt := 72) d_Mo_key_56 rfl k) ?_
      exact J72_10 (u1 127)
  refine S_icmp_geN d_Mo_key_19 rfl (by omega) (by omega) (fun c4 => ?_) (fun c4 => ?_)
  · refine ST.lift (fun _ _ k => T_iconst (v := nI 0) d_Mo_key_35 (by decide) k) ?_
    exact J36_6 0 (by omega)
  · refine ST.lift (fun _ _ k => T_iload_n d_Mo_key_22 rfl k) ?_
    refine S_if_ltN d_Mo_key_23 rfl (by omega) (fun c => by first | exact absurd c (by omega) | exact c.elim | exact absurd c (by decide) | exact absurd (by assumption) c | exact absurd c (by assumption) | exact absurd c (Int32.not_le.mpr (by assumption))) (fun _ => ?_)
    refine ST.lift (fun _ _ k => T_iload_n d_Mo_key_26 rfl k) ?_
    refine ST.lift (fun _ _ k => T_iconst (v := nI 3) d_Mo_key_27 (by decide) k) ?_
    refine S_icmp_geN d_Mo_key_28 rfl (by omega) (by omega) (fun c => by first | exact absurd c (by omega) | exact c.elim | exact absurd c (by decide) | exact absurd (by assumption) c | exact absurd c (by assumption) | exact absurd c (Int32.not_le.mpr (by assumption))) (fun _ => ?_)
    refine ST.lift (fun _ _ k => T_iconst (v := nI 1) d_Mo_key_31 (by decide) k) ?_
    refine ST.lift (fun _ _ k => T_goto (tgt := 36) d_Mo_key_32 rfl k) ?_
    exact J36_6 1 (by omega)
set_option maxRecDepth 100000 in
set_option maxHeartbeats 4000000 in
theorem c_Mo_key_3_1_not (G : GX) (v : Nat → Int32) (i : Nat) (b_i : i < 64) (e127 : v 127 = nI 0) (hv : okv v) : CS G mi_Mo_key [.ref 373, .int (nI 3), .int (nI 1), .int (nI i)] v (fun r v' => r = some (.int (nI 0)) ∧ okv v' ∧ mdf [66] v v' ∧ v' 66 = nI 1) := by
  refine CS.of (by decide) (Nat.le_of_ble_eq_true rfl) ?_
  generalize hQe : (fun (r : Option Value) (v' : Nat → Int32) => r = some (.int (nI 0)) ∧ okv v' ∧ mdf [66] v v' ∧ v' 66 = nI 1) = Q
  have hQ : ∀ u, okv u → mdf [66] v u → u 66 = nI 1 → Q (some (.int (nI 0))) u := by rw [← hQe]; exact fun u h1 h2 f0 => ⟨rfl, h1, h2, f0⟩
  clear hQe
  have hm : mdf [66] v v := mdf.rf
  show ST G mi_Mo_key 0 [(0, .ref 373), (1, .int (nI 3)), (2, .int (nI 1)), (3, .int (nI i))] [] v 0 0 Q
  refine ST.lift (fun _ _ k => T_aload_n (v := .ref 373) d_Mo_key_0 rfl (Or.inr ⟨_, rfl⟩) k) ?_
  refine ST.lift (fun _ _ k => T_iconst (v := nI 0) d_Mo_key_1 (by decide) k) ?_
  refine S_putfield (v' := va_up v 66 (nI 0)) d_Mo_key_2 (fp_Mo_316 _) (w373 _) (Nat.le_of_ble_eq_true rfl) ⟨rfl, rfl⟩ (u373_0 _ _) ?_
  have hv2 := hv.off (j := 66) (x := (nI 0)) (by decide)
  have hm3 := hm.go (mdf.up (v := v) (j := 66) (x := (nI 0))) (by intro i hi; simp only [List.mem_cons, List.not_mem_nil, or_false] at hi ⊢ <;> omega)
  have e_u1 : (va_up v 66 (nI 0)) 66 = (nI 0) := by simp [va_up]
  have e4 : (va_up v 66 (nI 0)) 127 = nI 0 := by simp only [va_up]; exact e127
  generalize va_up v 66 (nI 0) = u1 at hv2 hm3 e_u1 e4 ⊢
  refine ST.lift (fun _ _ k => T_iload_n d_Mo_key_5 rfl k) ?_
  refine S_static (as := [.int (nI 3)]) (rest := []) d_Mo_key_6 rfl (jw_Mo_isSession.jo (by decide)) lm_Mo_545 jt_Mo_isSession rfl (Nat.le_of_ble_eq_true rfl) (by decide) (by decide) (c_Mo_isSession G u1 3 (by omega)) (fun r v' hq => ?_)
  rw [hq.1, hq.2]
  clear hq r v'
  show ST G mi_Mo_key 9 [(0, .ref 373), (1, .int (nI 3)), (2, .int (nI 1)), (3, .int (nI i))] [.int (nI 1)] u1 0 0 _
  refine S_if_eqN d_Mo_key_9 rfl (by omega) (fun c => by first | exact absurd c (by omega) | exact c.elim | exact absurd c (by decide) | exact absurd (by assumption) c | exact absurd c (by assumption) | exact absurd c (Int32.not_le.mpr (by assumption))) (fun _ => ?_)
  refine ST.lift (fun _ _ k => T_iload_n d_Mo_key_12 rfl k) ?_
  refine S_if_ltN d_Mo_key_13 rfl (by omega) (fun c => by first | exact absurd c (by omega) | exact c.elim | exact absurd c (by decide) | exact absurd (by assumption) c | exact absurd c (by assumption) | exact absurd c (Int32.not_le.mpr (by assumption))) (fun _ => ?_)
  refine ST.lift (fun _ _ k => T_iload_n d_Mo_key_16 rfl k) ?_
  refine ST.lift (fun _ _ k => T_bipush (v := nI 64) d_Mo_key_17 (by decide) k) ?_
  refine S_icmp_geN d_Mo_key_19 rfl (by omega) (by omega) (fun c => by first | exact absurd c (by omega) | exact c.elim | exact absurd c (by decide) | exact absurd (by assumption) c | exact absurd c (by assumption) | exact absurd c (Int32.not_le.mpr (by assumption))) (fun _ => ?_)
  refine ST.lift (fun _ _ k => T_iload_n d_Mo_key_22 rfl k) ?_
  refine S_if_ltN d_Mo_key_23 rfl (by omega) (fun c => by first | exact absurd c (by omega) | exact c.elim | exact absurd c (by decide) | exact absurd (by assumption) c | exact absurd c (by assumption) | exact absurd c (Int32.not_le.mpr (by assumption))) (fun _ => ?_)
  refine ST.lift (fun _ _ k => T_iload_n d_Mo_key_26 rfl k) ?_
  refine ST.lift (fun _ _ k => T_iconst (v := nI 3) d_Mo_key_27 (by decide) k) ?_
  refine S_icmp_geN d_Mo_key_28 rfl (by omega) (by omega) (fun c => by first | exact absurd c (by omega) | exact c.elim | exact absurd c (by decide) | exact absurd (by assumption) c | exact absurd c (by assumption) | exact absurd c (Int32.not_le.mpr (by assumption))) (fun _ => ?_)
  refine ST.lift (fun _ _ k => T_iconst (v := nI 1) d_Mo_key_31 (by decide) k) ?_
  refine ST.lift (fun _ _ k => T_goto (tgt := 36) d_Mo_key_32 rfl k) ?_
  refine ST.lift (fun _ _ k => T_istore (L' := [(4, .int (nI 1)), (0, .ref 373), (1, .int (nI 3)), (2, .int (nI 1)), (3, .int (nI i))]) d_Mo_key_36 (by decide) rfl k) ?_
  refine ST.lift (fun _ _ k => T_iload d_Mo_key_38 rfl k) ?_
  refine S_if_eqN d_Mo_key_40 rfl (by omega) (fun c => by first | exact absurd c (by omega) | exact c.elim | exact absurd c (by decide) | exact absurd (by assumption) c | exact absurd c (by assumption) | exact absurd c (Int32.not_le.mpr (by assumption))) (fun _ => ?_)
  refine ST.lift (fun _ _ k => T_iload_n d_Mo_key_43 rfl k) ?_
  refine ST.lift (fun _ _ k => T_iconst (v := nI 1) d_Mo_key_44 (by decide) k) ?_
  refine S_icmp_neN d_Mo_key_45 rfl (by omega) (by omega) (fun c => by first | exact absurd c (by omega) | exact c.elim | exact absurd c (by decide) | exact absurd (by assumption) c | exact absurd c (by assumption) | exact absurd c (Int32.not_le.mpr (by assumption))) (fun _ => ?_)
  refine ST.lift (fun _ _ k => T_aload_n (v := .ref 373) d_Mo_key_48 rfl (Or.inr ⟨_, rfl⟩) k) ?_
  refine S_getfield d_Mo_key_49 fg_Mo_413 (w373 _) rfl ?_
  refine ST.lift (fun _ _ k => T_iload_n d_Mo_key_52 rfl k) ?_
  refine S_xload (t := 3) (k := 3) (Or.inr ⟨rfl, d_Mo_key_53⟩) rfl (w431 _) (by decide) (by decide) ?_
  refine S_topi (y := u1 127) rfl ?_
  refine S_topi (y := nI 0) (e4) ?_
  refine ST.lift (fun _ _ k => T_istore (L' := [(4, .int (nI 0)), (0, .ref 373), (1, .int (nI 3)), (2, .int (nI 1)), (3, .int (nI i))]) d_Mo_key_54 (by decide) rfl k) ?_
  refine ST.lift (fun _ _ k => T_goto (tgt := 72) d_Mo_key_56 rfl k) ?_
  refine ST.lift (fun _ _ k => T_iload d_Mo_key_72 rfl k) ?_
  refine S_if_neN d_Mo_key_74 rfl (by omega) (fun c => by first | exact absurd c (by omega) | exact c.elim | exact absurd c (by decide) | exact absurd (by assumption) c | exact absurd c (by assumption) | exact absurd c (Int32.not_le.mpr (by assumption))) (fun _ => ?_)
  refine ST.lift (fun _ _ k => T_aload_n (v := .ref 373) d_Mo_key_77 rfl (Or.inr ⟨_, rfl⟩) k) ?_
  refine ST.lift (fun _ _ k => T_iconst (v := nI 1) d_Mo_key_78 (by decide) k) ?_
  refine S_putfield (v' := va_up u1 66 (nI 1)) d_Mo_key_79 (fp_Mo_316 _) (w373 _) (Nat.le_of_ble_eq_true rfl) ⟨rfl, rfl⟩ (u373_0 _ _) ?_
  have hv6 := hv2.off (j := 66) (x := (nI 1)) (by decide)
  have hm7 := hm3.go (mdf.up (v := u1) (j := 66) (x := (nI 1))) (by intro i hi; simp only [List.mem_cons, List.not_mem_nil, or_false] at hi ⊢ <;> omega)
  have e_u5 : (va_up u1 66 (nI 1)) 66 = (nI 1) := by simp [va_up]
  have e8 : (va_up u1 66 (nI 1)) 127 = nI 0 := by simp only [va_up]; exact e4
  generalize va_up u1 66 (nI 1) = u5 at hv6 hm7 e_u5 e8 ⊢
  refine ST.lift (fun _ _ k => T_iconst (v := nI 0) d_Mo_key_82 (by decide) k) ?_
  refine S_topi (y := nI 0) (congrArg nI (by omega)) ?_
  exact S_ret d_Mo_key_83 rfl rfl (by decide) (by decide) (hQ _ hv6 hm7 (e_u5.trans (congrArg nI (by omega))))
set_option maxRecDepth 100000 in
set_option maxHeartbeats 4000000 in
theorem c_Mo_key_3_2 (G : GX) (v : Nat → Int32) (i : Nat) (b_i : i < 64) (hv : okv v) : CS G mi_Mo_key [.ref 373, .int (nI 3), .int (nI 2), .int (nI i)] v (fun r v' => ∃ z : Int32, r = some (.int z) ∧ okv v' ∧ mdf [66] v v') := by
  refine CS.of (by decide) (Nat.le_of_ble_eq_true rfl) ?_
  generalize hQe : (fun (r : Option Value) (v' : Nat → Int32) => ∃ z : Int32, r = some (.int z) ∧ okv v' ∧ mdf [66] v v') = Q
  have hQ : ∀ (z : Int32) (u : Nat → Int32), okv u → mdf [66] v u → Q (some (.int z)) u := by rw [← hQe]; exact fun z u h1 h2  => ⟨z, rfl, h1, h2⟩
  clear hQe
  have hm : mdf [66] v v := mdf.rf
  show ST G mi_Mo_key 0 [(0, .ref 373), (1, .int (nI 3)), (2, .int (nI 2)), (3, .int (nI i))] [] v 0 0 Q
  refine ST.lift (fun _ _ k => T_aload_n (v := .ref 373) d_Mo_key_0 rfl (Or.inr ⟨_, rfl⟩) k) ?_
  refine ST.lift (fun _ _ k => T_iconst (v := nI 0) d_Mo_key_1 (by decide) k) ?_
  refine S_putfield (v' := va_up v 66 (nI 0)) d_Mo_key_2 (fp_Mo_316 _) (w373 _) (Nat.le_of_ble_eq_true rfl) ⟨rfl, rfl⟩ (u373_0 _ _) ?_
  have hv2 := hv.off (j := 66) (x := (nI 0)) (by decide)
  have hm3 := hm.go (mdf.up (v := v) (j := 66) (x := (nI 0))) (by intro i hi; simp only [List.mem_cons, List.not_mem_nil, or_false] at hi ⊢ <;> omega)
  have e_u1 : (va_up v 66 (nI 0)) 66 = (nI 0) := by simp [va_up]
  generalize va_up v 66 (nI 0) = u1 at hv2 hm3 e_u1 ⊢
  refine ST.lift (fun _ _ k => T_iload_n d_Mo_key_5 rfl k) ?_
  refine S_static (as := [.int (nI 3)]) (rest := []) d_Mo_key_6 rfl (jw_Mo_isSession.jo (by decide)) lm_Mo_545 jt_Mo_isSession rfl (Nat.le_of_ble_eq_true rfl) (by decide) (by decide) (c_Mo_isSession G u1 3 (by omega)) (fun r v' hq => ?_)
  rw [hq.1, hq.2]
  clear hq r v'
  show ST G mi_Mo_key 9 [(0, .ref 373), (1, .int (nI 3)), (2, .int (nI 2)), (3, .int (nI i))] [.int (nI 1)] u1 0 0 _
  refine S_if_eqN d_Mo_key_9 rfl (by omega) (fun c => by first | exact absurd c (by omega) | exact c.elim | exact absurd c (by decide) | exact absurd (by assumption) c | exact absurd c (by assumption) | exact absurd c (Int32.not_le.mpr (by assumption))) (fun _ => ?_)
  refine ST.lift (fun _ _ k => T_iload_n d_Mo_key_12 rfl k) ?_
  refine S_if_ltN d_Mo_key_13 rfl (by omega) (fun c => by first | exact absurd c (by omega) | exact c.elim | exact absurd c (by decide) | exact absurd (by assumption) c | exact absurd c (by assumption) | exact absurd c (Int32.not_le.mpr (by assumption))) (fun _ => ?_)
  refine ST.lift (fun _ _ k => T_iload_n d_Mo_key_16 rfl k) ?_
  refine ST.lift (fun _ _ k => T_bipush (v := nI 64) d_Mo_key_17 (by decide) k) ?_
  have J36_6 : ∀ (z5 : Nat) (hz5 : z5 ≤ 1), ST G mi_Mo_key 36 [(0, .ref 373), (1, .int (nI 3)), (2, .int (nI 2)), (3, .int (nI i))] [.int (nI z5)] u1 0 0 Q := by
    intro z5 hz5
    refine ST.lift (fun _ _ k => T_istore (L' := [(4, .int (nI z5)), (0, .ref 373), (1, .int (nI 3)), (2, .int (nI 2)), (3, .int (nI i))]) d_Mo_key_36 (by decide) rfl k) ?_
    refine ST.lift (fun _ _ k => T_iload d_Mo_key_38 rfl k) ?_
    have J72_11 : ∀ (z10 : Int32), ST G mi_Mo_key 72 [(4, .int z10), (0, .ref 373), (1, .int (nI 3)), (2, .int (nI 2)), (3, .int (nI i))] [] u1 0 0 Q := by
      intro z10
      refine ST.lift (fun _ _ k => T_iload d_Mo_key_72 rfl k) ?_
      refine S_if_ne d_Mo_key_74 rfl (fun c12 => ?_) (fun c12 => ?_)
      · refine ST.lift (fun _ _ k => T_iload_n d_Mo_key_84 rfl k) ?_
        refine S_if_neN d_Mo_key_85 rfl (by omega) (fun _ => ?_) (fun c => by first | exact absurd c (by omega) | exact c.elim | exact absurd c (by decide) | exact absurd (by assumption) c | exact absurd c (by assumption) | exact absurd c (Int32.not_le.mpr (by assumption)))
        refine ST.lift (fun _ _ k => T_iload_n d_Mo_key_100 rfl k) ?_
        refine ST.lift (fun _ _ k => T_iconst (v := nI 1) d_Mo_key_101 (by decide) k) ?_
        refine S_icmp_neN d_Mo_key_102 rfl (by omega) (by omega) (fun _ => ?_) (fun c => by first | exact absurd c (by omega) | exact c.elim | exact absurd c (by decide) | exact absurd (by assumption) c | exact absurd c (by assumption) | exact absurd c (Int32.not_le.mpr (by assumption)))
        refine ST.lift (fun _ _ k => T_aload_n (v := .ref 373) d_Mo_key_117 rfl (Or.inr ⟨_, rfl⟩) k) ?_
        refine S_getfield d_Mo_key_118 fg_Mo_437 (w373 _) rfl ?_
        refine ST.lift (fun _ _ k => T_bipush (v := nI 64) d_Mo_key_121 (by decide) k) ?_
        refine ST.lift (fun _ _ k => T_iload_n d_Mo_key_123 rfl k) ?_
        refine S_imulN d_Mo_key_124 ?_
        refine S_topi (y := nI 192) (by decide) ?_
        refine ST.lift (fun _ _ k => T_iload_n d_Mo_key_125 rfl k) ?_
        refine S_iaddN d_Mo_key_126 ?_
        refine S_iaload d_Mo_key_127 a439 (vp_in_nI (by omega) (by omega)) (fun z13 => ?_)
        exact S_ret d_Mo_key_128 rfl rfl (by decide) (by decide) (hQ _ _ hv2 hm3)
      · refine ST.lift (fun _ _ k => T_aload_n (v := .ref 373) d_Mo_key_77 rfl (Or.inr ⟨_, rfl⟩) k) ?_
        refine ST.lift (fun _ _ k => T_iconst (v := nI 1) d_Mo_key_78 (by decide) k) ?_
        refine S_putfield (v' := va_up u1 66 (nI 1)) d_Mo_key_79 (fp_Mo_316 _) (w373 _) (Nat.le_of_ble_eq_true rfl) ⟨rfl, rfl⟩ (u373_0 _ _) ?_
        have hv15 := hv2.off (j := 66) (x := (nI 1)) (by decide)
        have hm16 := hm3.go (mdf.up (v := u1) (j := 66) (x := (nI 1))) (by intro i hi; simp only [List.mem_cons, List.not_mem_nil, or_false] at hi ⊢ <;> omega)
        have e_u14 : (va_up u1 66 (nI 1)) 66 = (nI 1) := by simp [va_up]
        generalize va_up u1 66 (nI 1) = u14 at hv15 hm16 e_u14 ⊢
        refine ST.lift (fun _ _ k => T_iconst (v := nI 0) d_Mo_key_82 (by decide) k) ?_
        exact S_ret d_Mo_key_83 rfl rfl (by decide) (by decide) (hQ _ _ hv15 hm16)
    refine S_if_eqN d_Mo_key_40 rfl (by omega) (fun c7 => ?_) (fun c7 => ?_)
    · refine ST.lift (fun _ _ k => T_iload d_Mo_key_59 rfl k) ?_
      refine S_if_eqN d_Mo_key_61 rfl (by omega) (fun c17 => ?_) (fun c17 => ?_)
      · exact J72_11 (nI z5)
      · refine ST.lift (fun _ _ k => T_aload_n (v := .ref 373) d_Mo_key_64 rfl (Or.inr ⟨_, rfl⟩) k) ?_
        refine S_getfield d_Mo_key_65 fg_Mo_410 (w373 _) rfl ?_
        refine ST.lift (fun _ _ k => T_iload_n d_Mo_key_68 rfl k) ?_
        refine S_xload (t := 3) (k := 3) (Or.inr ⟨rfl, d_Mo_key_69⟩) rfl (w430 _) (by decide) (by decide) ?_
        refine S_topi (y := u1 123) rfl ?_
        refine ST.lift (fun _ _ k => T_istore (L' := [(4, .int (u1 123)), (0, .ref 373), (1, .int (nI 3)), (2, .int (nI 2)), (3, .int (nI i))]) d_Mo_key_70 (by decide) rfl k) ?_
        exact J72_11 (u1 123)
    · refine ST.lift (fun _ _ k => T_iload_n d_Mo_key_43 rfl k) ?_
      refine ST.lift (fun _ _ k => T_iconst (v := nI 1) d_Mo_key_44 (by decide) k) ?_
      refine S_icmp_neN d_Mo_key_45 rfl (by omega) (by omega) (fun _ => ?_) (fun c => by first | exact absurd c (by omega) | exact c.elim | exact absurd c (by decide) | exact absurd (by assumption) c | exact absurd c (by assumption) | exact absurd c (Int32.not_le.mpr (by assumption)))
      refine ST.lift (fun _ _ k => T_iload d_Mo_key_59 rfl k) ?_
      refine S_if_eqN d_Mo_key_61 rfl (by omega) (fun c18 => ?_) (fun c18 => ?_)
      · exact J72_11 (nI z5)
      · refine ST.lift (fun _ _ k => T_aload_n (v := .ref 373) d_Mo_key_64 rfl (Or.inr ⟨_, rfl⟩) k) ?_
        refine S_getfield d_Mo_key_65 fg_Mo_410 (w373 _) rfl ?_
        refine ST.lift (fun _ _ k => T_iload_n d_Mo_key_68 rfl k) ?_
        refine S_xload (t := 3) (k := 3) (Or.inr ⟨rfl, d_Mo_key_69⟩) rfl (w430 _) (by decide) (by decide) ?_
        refine S_topi (y := u1 123) rfl ?_
        refine ST.lift (fun _ _ k => T_istore (L' := [(4, .int (u1 123)), (0, .ref 373), (1, .int (nI 3)), (2, .int (nI 2)), (3, .int (nI i))]) d_Mo_key_70 (by decide) rfl k) ?_
        exact J72_11 (u1 123)
  refine S_icmp_geN d_Mo_key_19 rfl (by omega) (by omega) (fun c4 => ?_) (fun c4 => ?_)
  · refine ST.lift (fun _ _ k => T_iconst (v := nI 0) d_Mo_key_35 (by decide) k) ?_
    exact J36_6 0 (by omega)
  · refine ST.lift (fun _ _ k => T_iload_n d_Mo_key_22 rfl k) ?_
    refine S_if_ltN d_Mo_key_23 rfl (by omega) (fun c => by first | exact absurd c (by omega) | exact c.elim | exact absurd c (by decide) | exact absurd (by assumption) c | exact absurd c (by assumption) | exact absurd c (Int32.not_le.mpr (by assumption))) (fun _ => ?_)
    refine ST.lift (fun _ _ k => T_iload_n d_Mo_key_26 rfl k) ?_
    refine ST.lift (fun _ _ k => T_iconst (v := nI 3) d_Mo_key_27 (by decide) k) ?_
    refine S_icmp_geN d_Mo_key_28 rfl (by omega) (by omega) (fun c => by first | exact absurd c (by omega) | exact c.elim | exact absurd c (by decide) | exact absurd (by assumption) c | exact absurd c (by assumption) | exact absurd c (Int32.not_le.mpr (by assumption))) (fun _ => ?_)
    refine ST.lift (fun _ _ k => T_iconst (v := nI 1) d_Mo_key_31 (by decide) k) ?_
    refine ST.lift (fun _ _ k => T_goto (tgt := 36) d_Mo_key_32 rfl k) ?_
    exact J36_6 1 (by omega)
set_option maxRecDepth 100000 in
set_option maxHeartbeats 4000000 in
theorem c_Mo_key_3_2_not (G : GX) (v : Nat → Int32) (i : Nat) (b_i : i < 64) (e123 : v 123 = nI 0) (hv : okv v) : CS G mi_Mo_key [.ref 373, .int (nI 3), .int (nI 2), .int (nI i)] v (fun r v' => r = some (.int (nI 0)) ∧ okv v' ∧ mdf [66] v v' ∧ v' 66 = nI 1) := by
  refine CS.of (by decide) (Nat.le_of_ble_eq_true rfl) ?_
  generalize hQe : (fun (r : Option Value) (v' : Nat → Int32) => r = some (.int (nI 0)) ∧ okv v' ∧ mdf [66] v v' ∧ v' 66 = nI 1) = Q
  have hQ : ∀ u, okv u → mdf [66] v u → u 66 = nI 1 → Q (some (.int (nI 0))) u := by rw [← hQe]; exact fun u h1 h2 f0 => ⟨rfl, h1, h2, f0⟩
  clear hQe
  have hm : mdf [66] v v := mdf.rf
  show ST G mi_Mo_key 0 [(0, .ref 373), (1, .int (nI 3)), (2, .int (nI 2)), (3, .int (nI i))] [] v 0 0 Q
  refine ST.lift (fun _ _ k => T_aload_n (v := .ref 373) d_Mo_key_0 rfl (Or.inr ⟨_, rfl⟩) k) ?_
  refine ST.lift (fun _ _ k => T_iconst (v := nI 0) d_Mo_key_1 (by decide) k) ?_
  refine S_putfield (v' := va_up v 66 (nI 0)) d_Mo_key_2 (fp_Mo_316 _) (w373 _) (Nat.le_of_ble_eq_true rfl) ⟨rfl, rfl⟩ (u373_0 _ _) ?_
  have hv2 := hv.off (j := 66) (x := (nI 0)) (by decide)
  have hm3 := hm.go (mdf.up (v := v) (j := 66) (x := (nI 0))) (by intro i hi; simp only [List.mem_cons, List.not_mem_nil, or_false] at hi ⊢ <;> omega)
  have e_u1 : (va_up v 66 (nI 0)) 66 = (nI 0) := by simp [va_up]
  have e4 : (va_up v 66 (nI 0)) 123 = nI 0 := by simp only [va_up]; exact e123
  generalize va_up v 66 (nI 0) = u1 at hv2 hm3 e_u1 e4 ⊢
  refine ST.lift (fun _ _ k => T_iload_n d_Mo_key_5 rfl k) ?_
  refine S_static (as := [.int (nI 3)]) (rest := []) d_Mo_key_6 rfl (jw_Mo_isSession.jo (by decide)) lm_Mo_545 jt_Mo_isSession rfl (Nat.le_of_ble_eq_true rfl) (by decide) (by decide) (c_Mo_isSession G u1 3 (by omega)) (fun r v' hq => ?_)
  rw [hq.1, hq.2]
  clear hq r v'
  show ST G mi_Mo_key 9 [(0, .ref 373), (1, .int (nI 3)), (2, .int (nI 2)), (3, .int (nI i))] [.int (nI 1)] u1 0 0 _
  refine S_if_eqN d_Mo_key_9 rfl (by omega) (fun c => by first | exact absurd c (by omega) | exact c.elim | exact absurd c (by decide) | exact absurd (by assumption) c | exact absurd c (by assumption) | exact absurd c (Int32.not_le.mpr (by assumption))) (fun _ => ?_)
  refine ST.lift (fun _ _ k => T_iload_n d_Mo_key_12 rfl k) ?_
  refine S_if_ltN d_Mo_key_13 rfl (by omega) (fun c => by first | exact absurd c (by omega) | exact c.elim | exact absurd c (by decide) | exact absurd (by assumption) c | exact absurd c (by assumption) | exact absurd c (Int32.not_le.mpr (by assumption))) (fun _ => ?_)
  refine ST.lift (fun _ _ k => T_iload_n d_Mo_key_16 rfl k) ?_
  refine ST.lift (fun _ _ k => T_bipush (v := nI 64) d_Mo_key_17 (by decide) k) ?_
  refine S_icmp_geN d_Mo_key_19 rfl (by omega) (by omega) (fun c => by first | exact absurd c (by omega) | exact c.elim | exact absurd c (by decide) | exact absurd (by assumption) c | exact absurd c (by assumption) | exact absurd c (Int32.not_le.mpr (by assumption))) (fun _ => ?_)
  refine ST.lift (fun _ _ k => T_iload_n d_Mo_key_22 rfl k) ?_
  refine S_if_ltN d_Mo_key_23 rfl (by omega) (fun c => by first | exact absurd c (by omega) | exact c.elim | exact absurd c (by decide) | exact absurd (by assumption) c | exact absurd c (by assumption) | exact absurd c (Int32.not_le.mpr (by assumption))) (fun _ => ?_)
  refine ST.lift (fun _ _ k => T_iload_n d_Mo_key_26 rfl k) ?_
  refine ST.lift (fun _ _ k => T_iconst (v := nI 3) d_Mo_key_27 (by decide) k) ?_
  refine S_icmp_geN d_Mo_key_28 rfl (by omega) (by omega) (fun c => by first | exact absurd c (by omega) | exact c.elim | exact absurd c (by decide) | exact absurd (by assumption) c | exact absurd c (by assumption) | exact absurd c (Int32.not_le.mpr (by assumption))) (fun _ => ?_)
  refine ST.lift (fun _ _ k => T_iconst (v := nI 1) d_Mo_key_31 (by decide) k) ?_
  refine ST.lift (fun _ _ k => T_goto (tgt := 36) d_Mo_key_32 rfl k) ?_
  refine ST.lift (fun _ _ k => T_istore (L' := [(4, .int (nI 1)), (0, .ref 373), (1, .int (nI 3)), (2, .int (nI 2)), (3, .int (nI i))]) d_Mo_key_36 (by decide) rfl k) ?_
  refine ST.lift (fun _ _ k => T_iload d_Mo_key_38 rfl k) ?_
  refine S_if_eqN d_Mo_key_40 rfl (by omega) (fun c => by first | exact absurd c (by omega) | exact c.elim | exact absurd c (by decide) | exact absurd (by assumption) c | exact absurd c (by assumption) | exact absurd c (Int32.not_le.mpr (by assumption))) (fun _ => ?_)
  refine ST.lift (fun _ _ k => T_iload_n d_Mo_key_43 rfl k) ?_
  refine ST.lift (fun _ _ k => T_iconst (v := nI 1) d_Mo_key_44 (by decide) k) ?_
  refine S_icmp_neN d_Mo_key_45 rfl (by omega) (by omega) (fun _ => ?_) (fun c => by first | exact absurd c (by omega) | exact c.elim | exact absurd c (by decide) | exact absurd (by assumption) c | exact absurd c (by assumption) | exact absurd c (Int32.not_le.mpr (by assumption)))
  refine ST.lift (fun _ _ k => T_iload d_Mo_key_59 rfl k) ?_
  refine S_if_eqN d_Mo_key_61 rfl (by omega) (fun c => by first | exact absurd c (by omega) | exact c.elim | exact absurd c (by decide) | exact absurd (by assumption) c | exact absurd c (by assumption) | exact absurd c (Int32.not_le.mpr (by assumption))) (fun _ => ?_)
  refine ST.lift (fun _ _ k => T_aload_n (v := .ref 373) d_Mo_key_64 rfl (Or.inr ⟨_, rfl⟩) k) ?_
  refine S_getfield d_Mo_key_65 fg_Mo_410 (w373 _) rfl ?_
  refine ST.lift (fun _ _ k => T_iload_n d_Mo_key_68 rfl k) ?_
  refine S_xload (t := 3) (k := 3) (Or.inr ⟨rfl, d_Mo_key_69⟩) rfl (w430 _) (by decide) (by decide) ?_
  refine S_topi (y := u1 123) rfl ?_
  refine S_topi (y := nI 0) (e4) ?_
  refine ST.lift (fun _ _ k => T_istore (L' := [(4, .int (nI 0)), (0, .ref 373), (1, .int (nI 3)), (2, .int (nI 2)), (3, .int (nI i))]) d_Mo_key_70 (by decide) rfl k) ?_
  refine ST.lift (fun _ _ k => T_iload d_Mo_key_72 rfl k) ?_
  refine S_if_neN d_Mo_key_74 rfl (by omega) (fun c => by first | exact absurd c (by omega) | exact c.elim | exact absurd c (by decide) | exact absurd (by assumption) c | exact absurd c (by assumption) | exact absurd c (Int32.not_le.mpr (by assumption))) (fun _ => ?_)
  refine ST.lift (fun _ _ k => T_aload_n (v := .ref 373) d_Mo_key_77 rfl (Or.inr ⟨_, rfl⟩) k) ?_
  refine ST.lift (fun _ _ k => T_iconst (v := nI 1) d_Mo_key_78 (by decide) k) ?_
  refine S_putfield (v' := va_up u1 66 (nI 1)) d_Mo_key_79 (fp_Mo_316 _) (w373 _) (Nat.le_of_ble_eq_true rfl) ⟨rfl, rfl⟩ (u373_0 _ _) ?_
  have hv6 := hv2.off (j := 66) (x := (nI 1)) (by decide)
  have hm7 := hm3.go (mdf.up (v := u1) (j := 66) (x := (nI 1))) (by intro i hi; simp only [List.mem_cons, List.not_mem_nil, or_false] at hi ⊢ <;> omega)
  have e_u5 : (va_up u1 66 (nI 1)) 66 = (nI 1) := by simp [va_up]
  have e8 : (va_up u1 66 (nI 1)) 123 = nI 0 := by simp only [va_up]; exact e4
  generalize va_up u1 66 (nI 1) = u5 at hv6 hm7 e_u5 e8 ⊢
  refine ST.lift (fun _ _ k => T_iconst (v := nI 0) d_Mo_key_82 (by decide) k) ?_
  refine S_topi (y := nI 0) (congrArg nI (by omega)) ?_
  exact S_ret d_Mo_key_83 rfl rfl (by decide) (by decide) (hQ _ hv6 hm7 (e_u5.trans (congrArg nI (by omega))))

theorem th_cl : Cond.classLink "PasswordGate" 123 nsN ∈ gtb := gtb_of (List.mem_of_getElem? (i := 1125) (by decide +kernel)) rfl
theorem th_in : Cond.initialized nsN ∈ gtb := gtb_of (List.mem_of_getElem? (i := 109) (by decide +kernel)) rfl
/-- over skeletons -/
def CSx (G : GX) (mi : MI) (as : List Value) (v : Nat → Int32) (Q : Option Value → (Nat → Int32) → Prop) : Prop :=
  ∀ X M1, Wd v M1 → CTx G mi as (M1 ++ X) (SQ X Q)
theorem CSx.of {G : GX} {mi : MI} {as : List Value} {v : Nat → Int32} {Q : Option Value → (Nat → Int32) → Prop} (hNT : G.1.stackTraces = false) (hy : plainName (mY mi).cls = true) (hn : (lg_sl as).length ≤ mL mi) (h : SG ZX G mi 0 (lv_args 0 as) [] v 0 0 Q) : CSx G mi as v Q :=
  fun X M1 hW => CTx.of hNT hy hn (h X M1 hW)
theorem H_throw {G : GX} {mi : MI} {pc : Nat} {L : List (Nat × Value)} {st : List Value} {v : Nat → Int32} {kc ks : Nat} {Q : Option Value → (Nat → Int32) → Prop} (hy : (mY mi).cls = "PasswordGate")
    (d0 : decode (mC mi) pc = .ok (.new 123, 3)) (d3 : decode (mC mi) (pc + 3) = .ok (.dup, 1)) (d4 : decode (mC mi) (pc + 4) = .ok (.invokespecial 125, 3)) (d7 : decode (mC mi) (pc + 7) = .ok (.athrow, 1))
    (h1 : Cond.classLink "PasswordGate" 123 nsN ∈ gtb) (h2 : Cond.initialized nsN ∈ gtb) (hf : 5 < (mRm mi).frames) (hl : (st.map fun v => v.category).sum + 90 ≤ (mRm mi).locals) (hkc : kc + 1 ≤ (mRm mi).cells) (hks : ks + 6 ≤ (mRm mi).slots) (hQ : Q none v) : SG ZX G mi pc L st v kc ks Q :=
  fun X M1 hW => G_throw hy d0 d3 d4 d7 h1 h2 hf hl hkc hks ⟨M1, v, rfl, hW, hQ⟩
def mt_PG_result : MI := (⟨"PasswordGate", "result", "(I)I"⟩, prog_1_method_7_code, 2, (some .int), (6, 120), 1, 6)
def mt_PG_wire : MI := (⟨"PasswordGate", "wire", "(III)I"⟩, prog_1_method_13_code, 4, (some .int), (6, 120), 1, 6)
def mt_PG_key : MI := (⟨"PasswordGate", "key", "(III)I"⟩, prog_1_method_15_code, 4, (some .int), (6, 120), 1, 6)
set_option maxRecDepth 100000 in
set_option maxHeartbeats 4000000 in
theorem t_PG_result_neg (G : GX) (hNT : G.1.stackTraces = false) (v : Nat → Int32) (z : Int32) (hz_n : z < 0) (hv : okv v) : CSx G mt_PG_result [.ref 61, .int z] v (fun _ v' => okv v' ∧ mdf [] v v') := by
  refine CSx.of hNT (by decide) (Nat.le_of_ble_eq_true rfl) ?_
  generalize hQe : (fun (_ : Option Value) (v' : Nat → Int32) => okv v' ∧ mdf [] v v') = Q
  have hQ : ∀ u, okv u → mdf [] v u → Q none u := by rw [← hQe]; exact fun u h1 h2 => ⟨h1, h2⟩
  clear hQe
  have hm : mdf [] v v := mdf.rf
  show SG ZX G mt_PG_result 0 [(0, .ref 61), (1, .int z)] [] v 0 0 Q
  refine SG.lift (fun _ _ k => G_aload_n (v := .ref 61) d_PG_result_0 rfl (Or.inr ⟨_, rfl⟩) k) ?_
  refine H_getfield d_PG_result_1 fg_PG_46 (w61 _) rfl ?_
  refine SG.lift (fun _ _ k => G_iload_n d_PG_result_4 rfl k) ?_
  refine H_virtual (as := [.int z]) (rest := []) (b := 371) d_PG_result_5 rfl (jw_By_has.jo (by decide)) lm_PG_119 ji_By_has js_By_has (w371 _) rfl rfl rfl (Nat.le_of_ble_eq_true rfl) (by decide) (by decide) (c_By_has_neg G v 371 372 64 65 ⟨w371, a372, by decide, u371_1, by decide, by decide⟩ z hz_n hv) (fun r u1 hq => ?_)
  obtain ⟨hr, hv2, hm3⟩ := hq
  rw [hr]
  clear hr r
  have hm4 := hm.go hm3 (by intro i hi; simp only [List.mem_cons, List.not_mem_nil, or_false] at hi ⊢ <;> omega)
  show SG ZX G mt_PG_result 8 [(0, .ref 61), (1, .int z)] [.int (nI 0)] u1 0 0 _
  refine H_if_neN d_PG_result_8 rfl (by omega) (fun c => by first | exact absurd c (by omega) | exact c.elim | exact absurd c (by decide) | exact absurd (by assumption) c | exact absurd c (by assumption) | exact absurd c (Int32.not_le.mpr (by assumption))) (fun _ => ?_)
  exact H_throw rfl d_PG_result_11 d_PG_result_14 d_PG_result_15 d_PG_result_18 th_cl th_in (by decide) (Nat.le_of_ble_eq_true rfl) (by decide) (by decide) (hQ _ hv2 hm4)
set_option maxRecDepth 100000 in
set_option maxHeartbeats 4000000 in
theorem t_PG_result_out (G : GX) (hNT : G.1.stackTraces = false) (v : Nat → Int32) (i : Nat) (b_i : i < 2147483648) (k : Nat) (e65 : v 65 = nI k) (hk : k ≤ i ∧ k ≤ 64) (hv : okv v) : CSx G mt_PG_result [.ref 61, .int (nI i)] v (fun _ v' => okv v' ∧ mdf [] v v') := by
  refine CSx.of hNT (by decide) (Nat.le_of_ble_eq_true rfl) ?_
  generalize hQe : (fun (_ : Option Value) (v' : Nat → Int32) => okv v' ∧ mdf [] v v') = Q
  have hQ : ∀ u, okv u → mdf [] v u → Q none u := by rw [← hQe]; exact fun u h1 h2 => ⟨h1, h2⟩
  clear hQe
  have hm : mdf [] v v := mdf.rf
  show SG ZX G mt_PG_result 0 [(0, .ref 61), (1, .int (nI i))] [] v 0 0 Q
  refine SG.lift (fun _ _ k => G_aload_n (v := .ref 61) d_PG_result_0 rfl (Or.inr ⟨_, rfl⟩) k) ?_
  refine H_getfield d_PG_result_1 fg_PG_46 (w61 _) rfl ?_
  refine SG.lift (fun _ _ k => G_iload_n d_PG_result_4 rfl k) ?_
  refine H_virtual (as := [.int (nI i)]) (rest := []) (b := 371) d_PG_result_5 rfl (jw_By_has.jo (by decide)) lm_PG_119 ji_By_has js_By_has (w371 _) rfl rfl rfl (Nat.le_of_ble_eq_true rfl) (by decide) (by decide) (c_By_has_out G v 371 372 64 65 ⟨w371, a372, by decide, u371_1, by decide, by decide⟩ i (by omega) k e65 (by omega) hv) (fun r u1 hq => ?_)
  obtain ⟨hr, hv2, hm3, fe0_u1⟩ := hq
  rw [hr]
  clear hr r
  have hm4 := hm.go hm3 (by intro i hi; simp only [List.mem_cons, List.not_mem_nil, or_false] at hi ⊢ <;> omega)
  have e5 : u1 65 = nI k := (hm3 65 (by decide)).trans e65
  show SG ZX G mt_PG_result 8 [(0, .ref 61), (1, .int (nI i))] [.int (nI 0)] u1 0 0 _
  refine H_if_neN d_PG_result_8 rfl (by omega) (fun c => by first | exact absurd c (by omega) | exact c.elim | exact absurd c (by decide) | exact absurd (by assumption) c | exact absurd c (by assumption) | exact absurd c (Int32.not_le.mpr (by assumption))) (fun _ => ?_)
  exact H_throw rfl d_PG_result_11 d_PG_result_14 d_PG_result_15 d_PG_result_18 th_cl th_in (by decide) (Nat.le_of_ble_eq_true rfl) (by decide) (by decide) (hQ _ hv2 hm4)
set_option maxRecDepth 100000 in
set_option maxHeartbeats 4000000 in
theorem t_PG_wire_sneg (G : GX) (hNT : G.1.stackTraces = false) (v : Nat → Int32) (x : Int32) (y : Int32) (z : Int32) (hx_s : x < 0) (hv : okv v) : CSx G mt_PG_wire [.ref 61, .int x, .int y, .int z] v (fun _ v' => okv v' ∧ mdf [] v v') := by
  refine CSx.of hNT (by decide) (Nat.le_of_ble_eq_true rfl) ?_
  generalize hQe : (fun (_ : Option Value) (v' : Nat → Int32) => okv v' ∧ mdf [] v v') = Q
  have hQ : ∀ u, okv u → mdf [] v u → Q none u := by rw [← hQe]; exact fun u h1 h2 => ⟨h1, h2⟩
  clear hQe
  have hm : mdf [] v v := mdf.rf
  show SG ZX G mt_PG_wire 0 [(0, .ref 61), (1, .int x), (2, .int y), (3, .int z)] [] v 0 0 Q
  refine SG.lift (fun _ _ k => G_aload_n (v := .ref 61) d_PG_wire_0 rfl (Or.inr ⟨_, rfl⟩) k) ?_
  refine SG.lift (fun _ _ k => G_iload_n d_PG_wire_1 rfl k) ?_
  refine SG.lift (fun _ _ k => G_iload_n d_PG_wire_2 rfl k) ?_
  refine SG.lift (fun _ _ k => G_iload_n d_PG_wire_3 rfl k) ?_
  refine H_virtual (as := [.int x, .int y, .int z]) (rest := []) (b := 61) d_PG_wire_4 rfl (jw_PG_isOnWire.jo (by decide)) lm_PG_154 ji_PG_isOnWire js_PG_isOnWire (w61 _) rfl rfl rfl (Nat.le_of_ble_eq_true rfl) (by decide) (by decide) (c_PG_isOnWire_sneg G v x y z hx_s hv) (fun r u1 hq => ?_)
  obtain ⟨hr, hv2, hm3⟩ := hq
  rw [hr]
  clear hr r
  have hm4 := hm.go hm3 (by intro i hi; simp only [List.mem_cons, List.not_mem_nil, or_false] at hi ⊢ <;> omega)
  show SG ZX G mt_PG_wire 7 [(0, .ref 61), (1, .int x), (2, .int y), (3, .int z)] [.int (nI 0)] u1 0 0 _
  refine H_if_neN d_PG_wire_7 rfl (by omega) (fun c => by first | exact absurd c (by omega) | exact c.elim | exact absurd c (by decide) | exact absurd (by assumption) c | exact absurd c (by assumption) | exact absurd c (Int32.not_le.mpr (by assumption))) (fun _ => ?_)
  exact H_throw rfl d_PG_wire_10 d_PG_wire_13 d_PG_wire_14 d_PG_wire_17 th_cl th_in (by decide) (Nat.le_of_ble_eq_true rfl) (by decide) (by decide) (hQ _ hv2 hm4)
set_option maxRecDepth 100000 in
set_option maxHeartbeats 4000000 in
theorem t_PG_key_sneg (G : GX) (hNT : G.1.stackTraces = false) (v : Nat → Int32) (x : Int32) (y : Int32) (z : Int32) (hx_s : x < 0) (hv : okv v) : CSx G mt_PG_key [.ref 61, .int x, .int y, .int z] v (fun _ v' => okv v' ∧ mdf [] v v') := by
  refine CSx.of hNT (by decide) (Nat.le_of_ble_eq_true rfl) ?_
  generalize hQe : (fun (_ : Option Value) (v' : Nat → Int32) => okv v' ∧ mdf [] v v') = Q
  have hQ : ∀ u, okv u → mdf [] v u → Q none u := by rw [← hQe]; exact fun u h1 h2 => ⟨h1, h2⟩
  clear hQe
  have hm : mdf [] v v := mdf.rf
  show SG ZX G mt_PG_key 0 [(0, .ref 61), (1, .int x), (2, .int y), (3, .int z)] [] v 0 0 Q
  refine SG.lift (fun _ _ k => G_iload_n d_PG_key_0 rfl k) ?_
  refine H_static (as := [.int x]) (rest := []) d_PG_key_1 rfl (jw_PG_isSession.jo (by decide)) lm_PG_133 jt_PG_isSession rfl (Nat.le_of_ble_eq_true rfl) (by decide) (by decide) (c_PG_isSession_neg G v x hx_s) (fun r v' hq => ?_)
  rw [hq.1, hq.2]
  clear hq r v'
  show SG ZX G mt_PG_key 4 [(0, .ref 61), (1, .int x), (2, .int y), (3, .int z)] [.int (nI 0)] v 0 0 _
  refine H_if_eqN d_PG_key_4 rfl (by omega) (fun _ => ?_) (fun c => by first | exact absurd c (by omega) | exact c.elim | exact absurd c (by decide) | exact absurd (by assumption) c | exact absurd c (by assumption) | exact absurd c (Int32.not_le.mpr (by assumption)))
  exact H_throw rfl d_PG_key_34 d_PG_key_37 d_PG_key_38 d_PG_key_41 th_cl th_in (by decide) (Nat.le_of_ble_eq_true rfl) (by decide) (by decide) (hQ _ hv hm)
set_option maxRecDepth 100000 in
set_option maxHeartbeats 4000000 in
theorem t_PG_wire_sbig (G : GX) (hNT : G.1.stackTraces = false) (v : Nat → Int32) (x : Int32) (y : Int32) (z : Int32) (h0_s : ¬ x < 0) (hx_s : nI 4 ≤ x) (hv : okv v) : CSx G mt_PG_wire [.ref 61, .int x, .int y, .int z] v (fun _ v' => okv v' ∧ mdf [] v v') := by
  refine CSx.of hNT (by decide) (Nat.le_of_ble_eq_true rfl) ?_
  generalize hQe : (fun (_ : Option Value) (v' : Nat → Int32) => okv v' ∧ mdf [] v v') = Q
  have hQ : ∀ u, okv u → mdf [] v u → Q none u := by rw [← hQe]; exact fun u h1 h2 => ⟨h1, h2⟩
  clear hQe
  have hm : mdf [] v v := mdf.rf
  show SG ZX G mt_PG_wire 0 [(0, .ref 61), (1, .int x), (2, .int y), (3, .int z)] [] v 0 0 Q
  refine SG.lift (fun _ _ k => G_aload_n (v := .ref 61) d_PG_wire_0 rfl (Or.inr ⟨_, rfl⟩) k) ?_
  refine SG.lift (fun _ _ k => G_iload_n d_PG_wire_1 rfl k) ?_
  refine SG.lift (fun _ _ k => G_iload_n d_PG_wire_2 rfl k) ?_
  refine SG.lift (fun _ _ k => G_iload_n d_PG_wire_3 rfl k) ?_
  refine H_virtual (as := [.int x, .int y, .int z]) (rest := []) (b := 61) d_PG_wire_4 rfl (jw_PG_isOnWire.jo (by decide)) lm_PG_154 ji_PG_isOnWire js_PG_isOnWire (w61 _) rfl rfl rfl (Nat.le_of_ble_eq_true rfl) (by decide) (by decide) (c_PG_isOnWire_sbig G v x y z h0_s hx_s hv) (fun r u1 hq => ?_)
  obtain ⟨hr, hv2, hm3⟩ := hq
  rw [hr]
  clear hr r
  have hm4 := hm.go hm3 (by intro i hi; simp only [List.mem_cons, List.not_mem_nil, or_false] at hi ⊢ <;> omega)
  show SG ZX G mt_PG_wire 7 [(0, .ref 61), (1, .int x), (2, .int y), (3, .int z)] [.int (nI 0)] u1 0 0 _
  refine H_if_neN d_PG_wire_7 rfl (by omega) (fun c => by first | exact absurd c (by omega) | exact c.elim | exact absurd c (by decide) | exact absurd (by assumption) c | exact absurd c (by assumption) | exact absurd c (Int32.not_le.mpr (by assumption))) (fun _ => ?_)
  exact H_throw rfl d_PG_wire_10 d_PG_wire_13 d_PG_wire_14 d_PG_wire_17 th_cl th_in (by decide) (Nat.le_of_ble_eq_true rfl) (by decide) (by decide) (hQ _ hv2 hm4)
set_option maxRecDepth 100000 in
set_option maxHeartbeats 4000000 in
theorem t_PG_key_sbig (G : GX) (hNT : G.1.stackTraces = false) (v : Nat → Int32) (x : Int32) (y : Int32) (z : Int32) (h0_s : ¬ x < 0) (hx_s : nI 4 ≤ x) (hv : okv v) : CSx G mt_PG_key [.ref 61, .int x, .int y, .int z] v (fun _ v' => okv v' ∧ mdf [] v v') := by
  refine CSx.of hNT (by decide) (Nat.le_of_ble_eq_true rfl) ?_
  generalize hQe : (fun (_ : Option Value) (v' : Nat → Int32) => okv v' ∧ mdf [] v v') = Q
  have hQ : ∀ u, okv u → mdf [] v u → Q none u := by rw [← hQe]; exact fun u h1 h2 => ⟨h1, h2⟩
  clear hQe
  have hm : mdf [] v v := mdf.rf
  show SG ZX G mt_PG_key 0 [(0, .ref 61), (1, .int x), (2, .int y), (3, .int z)] [] v 0 0 Q
  refine SG.lift (fun _ _ k => G_iload_n d_PG_key_0 rfl k) ?_
  refine H_static (as := [.int x]) (rest := []) d_PG_key_1 rfl (jw_PG_isSession.jo (by decide)) lm_PG_133 jt_PG_isSession rfl (Nat.le_of_ble_eq_true rfl) (by decide) (by decide) (c_PG_isSession_big G v x h0_s hx_s) (fun r v' hq => ?_)
  rw [hq.1, hq.2]
  clear hq r v'
  show SG ZX G mt_PG_key 4 [(0, .ref 61), (1, .int x), (2, .int y), (3, .int z)] [.int (nI 0)] v 0 0 _
  refine H_if_eqN d_PG_key_4 rfl (by omega) (fun _ => ?_) (fun c => by first | exact absurd c (by omega) | exact c.elim | exact absurd c (by decide) | exact absurd (by assumption) c | exact absurd c (by assumption) | exact absurd c (Int32.not_le.mpr (by assumption)))
  exact H_throw rfl d_PG_key_34 d_PG_key_37 d_PG_key_38 d_PG_key_41 th_cl th_in (by decide) (Nat.le_of_ble_eq_true rfl) (by decide) (by decide) (hQ _ hv hm)
set_option maxRecDepth 100000 in
set_option maxHeartbeats 4000000 in
theorem t_PG_wire_0_mlt (G : GX) (hNT : G.1.stackTraces = false) (v : Nat → Int32) (y : Int32) (z : Int32) (hy_m : y < nI 1) (hv : okv v) : CSx G mt_PG_wire [.ref 61, .int (nI 0), .int y, .int z] v (fun _ v' => okv v' ∧ mdf [] v v') := by
  refine CSx.of hNT (by decide) (Nat.le_of_ble_eq_true rfl) ?_
  generalize hQe : (fun (_ : Option Value) (v' : Nat → Int32) => okv v' ∧ mdf [] v v') = Q
  have hQ : ∀ u, okv u → mdf [] v u → Q none u := by rw [← hQe]; exact fun u h1 h2 => ⟨h1, h2⟩
  clear hQe
  have hm : mdf [] v v := mdf.rf
  show SG ZX G mt_PG_wire 0 [(0, .ref 61), (1, .int (nI 0)), (2, .int y), (3, .int z)] [] v 0 0 Q
  refine SG.lift (fun _ _ k => G_aload_n (v := .ref 61) d_PG_wire_0 rfl (Or.inr ⟨_, rfl⟩) k) ?_
  refine SG.lift (fun _ _ k => G_iload_n d_PG_wire_1 rfl k) ?_
  refine SG.lift (fun _ _ k => G_iload_n d_PG_wire_2 rfl k) ?_
  refine SG.lift (fun _ _ k => G_iload_n d_PG_wire_3 rfl k) ?_
  refine H_virtual (as := [.int (nI 0), .int y, .int z]) (rest := []) (b := 61) d_PG_wire_4 rfl (jw_PG_isOnWire.jo (by decide)) lm_PG_154 ji_PG_isOnWire js_PG_isOnWire (w61 _) rfl rfl rfl (Nat.le_of_ble_eq_true rfl) (by decide) (by decide) (c_PG_isOnWire_0_mlt G v y z hy_m hv) (fun r u1 hq => ?_)
  obtain ⟨hr, hv2, hm3⟩ := hq
  rw [hr]
  clear hr r
  have hm4 := hm.go hm3 (by intro i hi; simp only [List.mem_cons, List.not_mem_nil, or_false] at hi ⊢ <;> omega)
  show SG ZX G mt_PG_wire 7 [(0, .ref 61), (1, .int (nI 0)), (2, .int y), (3, .int z)] [.int (nI 0)] u1 0 0 _
  refine H_if_neN d_PG_wire_7 rfl (by omega) (fun c => by first | exact absurd c (by omega) | exact c.elim | exact absurd c (by decide) | exact absurd (by assumption) c | exact absurd c (by assumption) | exact absurd c (Int32.not_le.mpr (by assumption))) (fun _ => ?_)
  exact H_throw rfl d_PG_wire_10 d_PG_wire_13 d_PG_wire_14 d_PG_wire_17 th_cl th_in (by decide) (Nat.le_of_ble_eq_true rfl) (by decide) (by decide) (hQ _ hv2 hm4)
set_option maxRecDepth 100000 in
set_option maxHeartbeats 4000000 in
theorem t_PG_wire_0_mgt (G : GX) (hNT : G.1.stackTraces = false) (v : Nat → Int32) (y : Int32) (z : Int32) (h0_m : ¬ y < nI 1) (hy_m : nI 3 < y) (hv : okv v) : CSx G mt_PG_wire [.ref 61, .int (nI 0), .int y, .int z] v (fun _ v' => okv v' ∧ mdf [] v v') := by
  refine CSx.of hNT (by decide) (Nat.le_of_ble_eq_true rfl) ?_
  generalize hQe : (fun (_ : Option Value) (v' : Nat → Int32) => okv v' ∧ mdf [] v v') = Q
  have hQ : ∀ u, okv u → mdf [] v u → Q none u := by rw [← hQe]; exact fun u h1 h2 => ⟨h1, h2⟩
  clear hQe
  have hm : mdf [] v v := mdf.rf
  show SG ZX G mt_PG_wire 0 [(0, .ref 61), (1, .int (nI 0)), (2, .int y), (3, .int z)] [] v 0 0 Q
  refine SG.lift (fun _ _ k => G_aload_n (v := .ref 61) d_PG_wire_0 rfl (Or.inr ⟨_, rfl⟩) k) ?_
  refine SG.lift (fun _ _ k => G_iload_n d_PG_wire_1 rfl k) ?_
  refine SG.lift (fun _ _ k => G_iload_n d_PG_wire_2 rfl k) ?_
  refine SG.lift (fun _ _ k => G_iload_n d_PG_wire_3 rfl k) ?_
  refine H_virtual (as := [.int (nI 0), .int y, .int z]) (rest := []) (b := 61) d_PG_wire_4 rfl (jw_PG_isOnWire.jo (by decide)) lm_PG_154 ji_PG_isOnWire js_PG_isOnWire (w61 _) rfl rfl rfl (Nat.le_of_ble_eq_true rfl) (by decide) (by decide) (c_PG_isOnWire_0_mgt G v y z h0_m hy_m hv) (fun r u1 hq => ?_)
  obtain ⟨hr, hv2, hm3⟩ := hq
  rw [hr]
  clear hr r
  have hm4 := hm.go hm3 (by intro i hi; simp only [List.mem_cons, List.not_mem_nil, or_false] at hi ⊢ <;> omega)
  show SG ZX G mt_PG_wire 7 [(0, .ref 61), (1, .int (nI 0)), (2, .int y), (3, .int z)] [.int (nI 0)] u1 0 0 _
  refine H_if_neN d_PG_wire_7 rfl (by omega) (fun c => by first | exact absurd c (by omega) | exact c.elim | exact absurd c (by decide) | exact absurd (by assumption) c | exact absurd c (by assumption) | exact absurd c (Int32.not_le.mpr (by assumption))) (fun _ => ?_)
  exact H_throw rfl d_PG_wire_10 d_PG_wire_13 d_PG_wire_14 d_PG_wire_17 th_cl th_in (by decide) (Nat.le_of_ble_eq_true rfl) (by decide) (by decide) (hQ _ hv2 hm4)
set_option maxRecDepth 100000 in
set_option maxHeartbeats 4000000 in
theorem t_PG_key_0_lt (G : GX) (hNT : G.1.stackTraces = false) (v : Nat → Int32) (y : Int32) (z : Int32) (hy : y < 0) (hv : okv v) : CSx G mt_PG_key [.ref 61, .int (nI 0), .int y, .int z] v (fun _ v' => okv v' ∧ mdf [] v v') := by
  refine CSx.of hNT (by decide) (Nat.le_of_ble_eq_true rfl) ?_
  generalize hQe : (fun (_ : Option Value) (v' : Nat → Int32) => okv v' ∧ mdf [] v v') = Q
  have hQ : ∀ u, okv u → mdf [] v u → Q none u := by rw [← hQe]; exact fun u h1 h2 => ⟨h1, h2⟩
  clear hQe
  have hm : mdf [] v v := mdf.rf
  show SG ZX G mt_PG_key 0 [(0, .ref 61), (1, .int (nI 0)), (2, .int y), (3, .int z)] [] v 0 0 Q
  refine SG.lift (fun _ _ k => G_iload_n d_PG_key_0 rfl k) ?_
  refine H_static (as := [.int (nI 0)]) (rest := []) d_PG_key_1 rfl (jw_PG_isSession.jo (by decide)) lm_PG_133 jt_PG_isSession rfl (Nat.le_of_ble_eq_true rfl) (by decide) (by decide) (c_PG_isSession G v 0 (by omega)) (fun r v' hq => ?_)
  rw [hq.1, hq.2]
  clear hq r v'
  show SG ZX G mt_PG_key 4 [(0, .ref 61), (1, .int (nI 0)), (2, .int y), (3, .int z)] [.int (nI 1)] v 0 0 _
  refine H_if_eqN d_PG_key_4 rfl (by omega) (fun c => by first | exact absurd c (by omega) | exact c.elim | exact absurd c (by decide) | exact absurd (by assumption) c | exact absurd c (by assumption) | exact absurd c (Int32.not_le.mpr (by assumption))) (fun _ => ?_)
  refine SG.lift (fun _ _ k => G_iload_n d_PG_key_7 rfl k) ?_
  refine H_if_lt d_PG_key_8 rfl (fun _ => ?_) (fun c => by first | exact absurd c (by omega) | exact c.elim | exact absurd c (by decide) | exact absurd (by assumption) c | exact absurd c (by assumption) | exact absurd c (Int32.not_le.mpr (by assumption)))
  exact H_throw rfl d_PG_key_34 d_PG_key_37 d_PG_key_38 d_PG_key_41 th_cl th_in (by decide) (Nat.le_of_ble_eq_true rfl) (by decide) (by decide) (hQ _ hv hm)
set_option maxRecDepth 100000 in
set_option maxHeartbeats 4000000 in
theorem t_PG_key_0_gt (G : GX) (hNT : G.1.stackTraces = false) (v : Nat → Int32) (y : Int32) (z : Int32) (h0 : ¬ y < 0) (hy : nI 2 < y) (hv : okv v) : CSx G mt_PG_key [.ref 61, .int (nI 0), .int y, .int z] v (fun _ v' => okv v' ∧ mdf [] v v') := by
  refine CSx.of hNT (by decide) (Nat.le_of_ble_eq_true rfl) ?_
  generalize hQe : (fun (_ : Option Value) (v' : Nat → Int32) => okv v' ∧ mdf [] v v') = Q
  have hQ : ∀ u, okv u → mdf [] v u → Q none u := by rw [← hQe]; exact fun u h1 h2 => ⟨h1, h2⟩
  clear hQe
  have hm : mdf [] v v := mdf.rf
  show SG ZX G mt_PG_key 0 [(0, .ref 61), (1, .int (nI 0)), (2, .int y), (3, .int z)] [] v 0 0 Q
  refine SG.lift (fun _ _ k => G_iload_n d_PG_key_0 rfl k) ?_
  refine H_static (as := [.int (nI 0)]) (rest := []) d_PG_key_1 rfl (jw_PG_isSession.jo (by decide)) lm_PG_133 jt_PG_isSession rfl (Nat.le_of_ble_eq_true rfl) (by decide) (by decide) (c_PG_isSession G v 0 (by omega)) (fun r v' hq => ?_)
  rw [hq.1, hq.2]
  clear hq r v'
  show SG ZX G mt_PG_key 4 [(0, .ref 61), (1, .int (nI 0)), (2, .int y), (3, .int z)] [.int (nI 1)] v 0 0 _
  refine H_if_eqN d_PG_key_4 rfl (by omega) (fun c => by first | exact absurd c (by omega) | exact c.elim | exact absurd c (by decide) | exact absurd (by assumption) c | exact absurd c (by assumption) | exact absurd c (Int32.not_le.mpr (by assumption))) (fun _ => ?_)
  refine SG.lift (fun _ _ k => G_iload_n d_PG_key_7 rfl k) ?_
  refine H_if_lt d_PG_key_8 rfl (fun c => by first | exact absurd c (by omega) | exact c.elim | exact absurd c (by decide) | exact absurd (by assumption) c | exact absurd c (by assumption) | exact absurd c (Int32.not_le.mpr (by assumption))) (fun _ => ?_)
  refine SG.lift (fun _ _ k => G_iload_n d_PG_key_11 rfl k) ?_
  refine SG.lift (fun _ _ k => G_iconst (v := nI 2) d_PG_key_12 (by decide) k) ?_
  refine H_icmp_gt d_PG_key_13 rfl (fun _ => ?_) (fun c => by first | exact absurd c (by omega) | exact c.elim | exact absurd c (by decide) | exact absurd (by assumption) c | exact absurd c (by assumption) | exact absurd c (Int32.not_le.mpr (by assumption)))
  exact H_throw rfl d_PG_key_34 d_PG_key_37 d_PG_key_38 d_PG_key_41 th_cl th_in (by decide) (Nat.le_of_ble_eq_true rfl) (by decide) (by decide) (hQ _ hv hm)
set_option maxRecDepth 100000 in
set_option maxHeartbeats 4000000 in
theorem t_PG_wire_0_1_neg (G : GX) (hNT : G.1.stackTraces = false) (v : Nat → Int32) (z : Int32) (hz_n : z < 0) (hv : okv v) : CSx G mt_PG_wire [.ref 61, .int (nI 0), .int (nI 1), .int z] v (fun _ v' => okv v' ∧ mdf [] v v') := by
  refine CSx.of hNT (by decide) (Nat.le_of_ble_eq_true rfl) ?_
  generalize hQe : (fun (_ : Option Value) (v' : Nat → Int32) => okv v' ∧ mdf [] v v') = Q
  have hQ : ∀ u, okv u → mdf [] v u → Q none u := by rw [← hQe]; exact fun u h1 h2 => ⟨h1, h2⟩
  clear hQe
  have hm : mdf [] v v := mdf.rf
  show SG ZX G mt_PG_wire 0 [(0, .ref 61), (1, .int (nI 0)), (2, .int (nI 1)), (3, .int z)] [] v 0 0 Q
  refine SG.lift (fun _ _ k => G_aload_n (v := .ref 61) d_PG_wire_0 rfl (Or.inr ⟨_, rfl⟩) k) ?_
  refine SG.lift (fun _ _ k => G_iload_n d_PG_wire_1 rfl k) ?_
  refine SG.lift (fun _ _ k => G_iload_n d_PG_wire_2 rfl k) ?_
  refine SG.lift (fun _ _ k => G_iload_n d_PG_wire_3 rfl k) ?_
  refine H_virtual (as := [.int (nI 0), .int (nI 1), .int z]) (rest := []) (b := 61) d_PG_wire_4 rfl (jw_PG_isOnWire.jo (by decide)) lm_PG_154 ji_PG_isOnWire js_PG_isOnWire (w61 _) rfl rfl rfl (Nat.le_of_ble_eq_true rfl) (by decide) (by decide) (c_PG_isOnWire_0_1_neg G v z hz_n hv) (fun r u1 hq => ?_)
  obtain ⟨hr, hv2, hm3⟩ := hq
  rw [hr]
  clear hr r
  have hm4 := hm.go hm3 (by intro i hi; simp only [List.mem_cons, List.not_mem_nil, or_false] at hi ⊢ <;> omega)
  show SG ZX G mt_PG_wire 7 [(0, .ref 61), (1, .int (nI 0)), (2, .int (nI 1)), (3, .int z)] [.int (nI 0)] u1 0 0 _
  refine H_if_neN d_PG_wire_7 rfl (by omega) (fun c => by first | exact absurd c (by omega) | exact c.elim | exact absurd c (by decide) | exact absurd (by assumption) c | exact absurd c (by assumption) | exact absurd c (Int32.not_le.mpr (by assumption))) (fun _ => ?_)
  exact H_throw rfl d_PG_wire_10 d_PG_wire_13 d_PG_wire_14 d_PG_wire_17 th_cl th_in (by decide) (Nat.le_of_ble_eq_true rfl) (by decide) (by decide) (hQ _ hv2 hm4)
set_option maxRecDepth 100000 in
set_option maxHeartbeats 4000000 in
theorem t_PG_wire_0_1_out (G : GX) (hNT : G.1.stackTraces = false) (v : Nat → Int32) (i : Nat) (b_i : i < 2147483648) (k : Nat) (e28 : v 28 = nI k) (hk : k ≤ i ∧ k ≤ 96) (hv : okv v) : CSx G mt_PG_wire [.ref 61, .int (nI 0), .int (nI 1), .int (nI i)] v (fun _ v' => okv v' ∧ mdf [] v v') := by
  refine CSx.of hNT (by decide) (Nat.le_of_ble_eq_true rfl) ?_
  generalize hQe : (fun (_ : Option Value) (v' : Nat → Int32) => okv v' ∧ mdf [] v v') = Q
  have hQ : ∀ u, okv u → mdf [] v u → Q none u := by rw [← hQe]; exact fun u h1 h2 => ⟨h1, h2⟩
  clear hQe
  have hm : mdf [] v v := mdf.rf
  show SG ZX G mt_PG_wire 0 [(0, .ref 61), (1, .int (nI 0)), (2, .int (nI 1)), (3, .int (nI i))] [] v 0 0 Q
  refine SG.lift (fun _ _ k => G_aload_n (v := .ref 61) d_PG_wire_0 rfl (Or.inr ⟨_, rfl⟩) k) ?_
  refine SG.lift (fun _ _ k => G_iload_n d_PG_wire_1 rfl k) ?_
  refine SG.lift (fun _ _ k => G_iload_n d_PG_wire_2 rfl k) ?_
  refine SG.lift (fun _ _ k => G_iload_n d_PG_wire_3 rfl k) ?_
  refine H_virtual (as := [.int (nI 0), .int (nI 1), .int (nI i)]) (rest := []) (b := 61) d_PG_wire_4 rfl (jw_PG_isOnWire.jo (by decide)) lm_PG_154 ji_PG_isOnWire js_PG_isOnWire (w61 _) rfl rfl rfl (Nat.le_of_ble_eq_true rfl) (by decide) (by decide) (c_PG_isOnWire_0_1_out G v i (by omega) k e28 (by omega) hv) (fun r u1 hq => ?_)
  obtain ⟨hr, hv2, hm3, fe0_u1⟩ := hq
  rw [hr]
  clear hr r
  have hm4 := hm.go hm3 (by intro i hi; simp only [List.mem_cons, List.not_mem_nil, or_false] at hi ⊢ <;> omega)
  have e5 : u1 28 = nI k := (hm3 28 (by decide)).trans e28
  show SG ZX G mt_PG_wire 7 [(0, .ref 61), (1, .int (nI 0)), (2, .int (nI 1)), (3, .int (nI i))] [.int (nI 0)] u1 0 0 _
  refine H_if_neN d_PG_wire_7 rfl (by omega) (fun c => by first | exact absurd c (by omega) | exact c.elim | exact absurd c (by decide) | exact absurd (by assumption) c | exact absurd c (by assumption) | exact absurd c (Int32.not_le.mpr (by assumption))) (fun _ => ?_)
  exact H_throw rfl d_PG_wire_10 d_PG_wire_13 d_PG_wire_14 d_PG_wire_17 th_cl th_in (by decide) (Nat.le_of_ble_eq_true rfl) (by decide) (by decide) (hQ _ hv2 hm4)
set_option maxRecDepth 100000 in
set_option maxHeartbeats 4000000 in
theorem t_PG_wire_0_2_neg (G : GX) (hNT : G.1.stackTraces = false) (v : Nat → Int32) (z : Int32) (hz_n : z < 0) (hv : okv v) : CSx G mt_PG_wire [.ref 61, .int (nI 0), .int (nI 2), .int z] v (fun _ v' => okv v' ∧ mdf [] v v') := by
  refine CSx.of hNT (by decide) (Nat.le_of_ble_eq_true rfl) ?_
  generalize hQe : (fun (_ : Option Value) (v' : Nat → Int32) => okv v' ∧ mdf [] v v') = Q
  have hQ : ∀ u, okv u → mdf [] v u → Q none u := by rw [← hQe]; exact fun u h1 h2 => ⟨h1, h2⟩
  clear hQe
  have hm : mdf [] v v := mdf.rf
  show SG ZX G mt_PG_wire 0 [(0, .ref 61), (1, .int (nI 0)), (2, .int (nI 2)), (3, .int z)] [] v 0 0 Q
  refine SG.lift (fun _ _ k => G_aload_n (v := .ref 61) d_PG_wire_0 rfl (Or.inr ⟨_, rfl⟩) k) ?_
  refine SG.lift (fun _ _ k => G_iload_n d_PG_wire_1 rfl k) ?_
  refine SG.lift (fun _ _ k => G_iload_n d_PG_wire_2 rfl k) ?_
  refine SG.lift (fun _ _ k => G_iload_n d_PG_wire_3 rfl k) ?_
  refine H_virtual (as := [.int (nI 0), .int (nI 2), .int z]) (rest := []) (b := 61) d_PG_wire_4 rfl (jw_PG_isOnWire.jo (by decide)) lm_PG_154 ji_PG_isOnWire js_PG_isOnWire (w61 _) rfl rfl rfl (Nat.le_of_ble_eq_true rfl) (by decide) (by decide) (c_PG_isOnWire_0_2_neg G v z hz_n hv) (fun r u1 hq => ?_)
  obtain ⟨hr, hv2, hm3⟩ := hq
  rw [hr]
  clear hr r
  have hm4 := hm.go hm3 (by intro i hi; simp only [List.mem_cons, List.not_mem_nil, or_false] at hi ⊢ <;> omega)
  show SG ZX G mt_PG_wire 7 [(0, .ref 61), (1, .int (nI 0)), (2, .int (nI 2)), (3, .int z)] [.int (nI 0)] u1 0 0 _
  refine H_if_neN d_PG_wire_7 rfl (by omega) (fun c => by first | exact absurd c (by omega) | exact c.elim | exact absurd c (by decide) | exact absurd (by assumption) c | exact absurd c (by assumption) | exact absurd c (Int32.not_le.mpr (by assumption))) (fun _ => ?_)
  exact H_throw rfl d_PG_wire_10 d_PG_wire_13 d_PG_wire_14 d_PG_wire_17 th_cl th_in (by decide) (Nat.le_of_ble_eq_true rfl) (by decide) (by decide) (hQ _ hv2 hm4)
set_option maxRecDepth 100000 in
set_option maxHeartbeats 4000000 in
theorem t_PG_wire_0_2_out (G : GX) (hNT : G.1.stackTraces = false) (v : Nat → Int32) (i : Nat) (b_i : i < 2147483648) (k : Nat) (e29 : v 29 = nI k) (hk : k ≤ i ∧ k ≤ 320) (hv : okv v) : CSx G mt_PG_wire [.ref 61, .int (nI 0), .int (nI 2), .int (nI i)] v (fun _ v' => okv v' ∧ mdf [] v v') := by
  refine CSx.of hNT (by decide) (Nat.le_of_ble_eq_true rfl) ?_
  generalize hQe : (fun (_ : Option Value) (v' : Nat → Int32) => okv v' ∧ mdf [] v v') = Q
  have hQ : ∀ u, okv u → mdf [] v u → Q none u := by rw [← hQe]; exact fun u h1 h2 => ⟨h1, h2⟩
  clear hQe
  have hm : mdf [] v v := mdf.rf
  show SG ZX G mt_PG_wire 0 [(0, .ref 61), (1, .int (nI 0)), (2, .int (nI 2)), (3, .int (nI i))] [] v 0 0 Q
  refine SG.lift (fun _ _ k => G_aload_n (v := .ref 61) d_PG_wire_0 rfl (Or.inr ⟨_, rfl⟩) k) ?_
  refine SG.lift (fun _ _ k => G_iload_n d_PG_wire_1 rfl k) ?_
  refine SG.lift (fun _ _ k => G_iload_n d_PG_wire_2 rfl k) ?_
  refine SG.lift (fun _ _ k => G_iload_n d_PG_wire_3 rfl k) ?_
  refine H_virtual (as := [.int (nI 0), .int (nI 2), .int (nI i)]) (rest := []) (b := 61) d_PG_wire_4 rfl (jw_PG_isOnWire.jo (by decide)) lm_PG_154 ji_PG_isOnWire js_PG_isOnWire (w61 _) rfl rfl rfl (Nat.le_of_ble_eq_true rfl) (by decide) (by decide) (c_PG_isOnWire_0_2_out G v i (by omega) k e29 (by omega) hv) (fun r u1 hq => ?_)
  obtain ⟨hr, hv2, hm3, fe0_u1⟩ := hq
  rw [hr]
  clear hr r
  have hm4 := hm.go hm3 (by intro i hi; simp only [List.mem_cons, List.not_mem_nil, or_false] at hi ⊢ <;> omega)
  have e5 : u1 29 = nI k := (hm3 29 (by decide)).trans e29
  show SG ZX G mt_PG_wire 7 [(0, .ref 61), (1, .int (nI 0)), (2, .int (nI 2)), (3, .int (nI i))] [.int (nI 0)] u1 0 0 _
  refine H_if_neN d_PG_wire_7 rfl (by omega) (fun c => by first | exact absurd c (by omega) | exact c.elim | exact absurd c (by decide) | exact absurd (by assumption) c | exact absurd c (by assumption) | exact absurd c (Int32.not_le.mpr (by assumption))) (fun _ => ?_)
  exact H_throw rfl d_PG_wire_10 d_PG_wire_13 d_PG_wire_14 d_PG_wire_17 th_cl th_in (by decide) (Nat.le_of_ble_eq_true rfl) (by decide) (by decide) (hQ _ hv2 hm4)
set_option maxRecDepth 100000 in
set_option maxHeartbeats 4000000 in
theorem t_PG_wire_0_3_neg (G : GX) (hNT : G.1.stackTraces = false) (v : Nat → Int32) (z : Int32) (hz_n : z < 0) (hv : okv v) : CSx G mt_PG_wire [.ref 61, .int (nI 0), .int (nI 3), .int z] v (fun _ v' => okv v' ∧ mdf [] v v') := by
  refine CSx.of hNT (by decide) (Nat.le_of_ble_eq_true rfl) ?_
  generalize hQe : (fun (_ : Option Value) (v' : Nat → Int32) => okv v' ∧ mdf [] v v') = Q
  have hQ : ∀ u, okv u → mdf [] v u → Q none u := by rw [← hQe]; exact fun u h1 h2 => ⟨h1, h2⟩
  clear hQe
  have hm : mdf [] v v := mdf.rf
  show SG ZX G mt_PG_wire 0 [(0, .ref 61), (1, .int (nI 0)), (2, .int (nI 3)), (3, .int z)] [] v 0 0 Q
  refine SG.lift (fun _ _ k => G_aload_n (v := .ref 61) d_PG_wire_0 rfl (Or.inr ⟨_, rfl⟩) k) ?_
  refine SG.lift (fun _ _ k => G_iload_n d_PG_wire_1 rfl k) ?_
  refine SG.lift (fun _ _ k => G_iload_n d_PG_wire_2 rfl k) ?_
  refine SG.lift (fun _ _ k => G_iload_n d_PG_wire_3 rfl k) ?_
  refine H_virtual (as := [.int (nI 0), .int (nI 3), .int z]) (rest := []) (b := 61) d_PG_wire_4 rfl (jw_PG_isOnWire.jo (by decide)) lm_PG_154 ji_PG_isOnWire js_PG_isOnWire (w61 _) rfl rfl rfl (Nat.le_of_ble_eq_true rfl) (by decide) (by decide) (c_PG_isOnWire_0_3_neg G v z hz_n hv) (fun r u1 hq => ?_)
  obtain ⟨hr, hv2, hm3⟩ := hq
  rw [hr]
  clear hr r
  have hm4 := hm.go hm3 (by intro i hi; simp only [List.mem_cons, List.not_mem_nil, or_false] at hi ⊢ <;> omega)
  show SG ZX G mt_PG_wire 7 [(0, .ref 61), (1, .int (nI 0)), (2, .int (nI 3)), (3, .int z)] [.int (nI 0)] u1 0 0 _
  refine H_if_neN d_PG_wire_7 rfl (by omega) (fun c => by first | exact absurd c (by omega) | exact c.elim | exact absurd c (by decide) | exact absurd (by assumption) c | exact absurd c (by assumption) | exact absurd c (Int32.not_le.mpr (by assumption))) (fun _ => ?_)
  exact H_throw rfl d_PG_wire_10 d_PG_wire_13 d_PG_wire_14 d_PG_wire_17 th_cl th_in (by decide) (Nat.le_of_ble_eq_true rfl) (by decide) (by decide) (hQ _ hv2 hm4)
set_option maxRecDepth 100000 in
set_option maxHeartbeats 4000000 in
theorem t_PG_wire_0_3_out (G : GX) (hNT : G.1.stackTraces = false) (v : Nat → Int32) (i : Nat) (b_i : i < 2147483648) (k : Nat) (e30 : v 30 = nI k) (hk : k ≤ i ∧ k ≤ 64) (hv : okv v) : CSx G mt_PG_wire [.ref 61, .int (nI 0), .int (nI 3), .int (nI i)] v (fun _ v' => okv v' ∧ mdf [] v v') := by
  refine CSx.of hNT (by decide) (Nat.le_of_ble_eq_true rfl) ?_
  generalize hQe : (fun (_ : Option Value) (v' : Nat → Int32) => okv v' ∧ mdf [] v v') = Q
  have hQ : ∀ u, okv u → mdf [] v u → Q none u := by rw [← hQe]; exact fun u h1 h2 => ⟨h1, h2⟩
  clear hQe
  have hm : mdf [] v v := mdf.rf
  show SG ZX G mt_PG_wire 0 [(0, .ref 61), (1, .int (nI 0)), (2, .int (nI 3)), (3, .int (nI i))] [] v 0 0 Q
  refine SG.lift (fun _ _ k => G_aload_n (v := .ref 61) d_PG_wire_0 rfl (Or.inr ⟨_, rfl⟩) k) ?_
  refine SG.lift (fun _ _ k => G_iload_n d_PG_wire_1 rfl k) ?_
  refine SG.lift (fun _ _ k => G_iload_n d_PG_wire_2 rfl k) ?_
  refine SG.lift (fun _ _ k => G_iload_n d_PG_wire_3 rfl k) ?_
  refine H_virtual (as := [.int (nI 0), .int (nI 3), .int (nI i)]) (rest := []) (b := 61) d_PG_wire_4 rfl (jw_PG_isOnWire.jo (by decide)) lm_PG_154 ji_PG_isOnWire js_PG_isOnWire (w61 _) rfl rfl rfl (Nat.le_of_ble_eq_true rfl) (by decide) (by decide) (c_PG_isOnWire_0_3_out G v i (by omega) k e30 (by omega) hv) (fun r u1 hq => ?_)
  obtain ⟨hr, hv2, hm3, fe0_u1⟩ := hq
  rw [hr]
  clear hr r
  have hm4 := hm.go hm3 (by intro i hi; simp only [List.mem_cons, List.not_mem_nil, or_false] at hi ⊢ <;> omega)
  have e5 : u1 30 = nI k := (hm3 30 (by decide)).trans e30
  show SG ZX G mt_PG_wire 7 [(0, .ref 61), (1, .int (nI 0)), (2, .int (nI 3)), (3, .int (nI i))] [.int (nI 0)] u1 0 0 _
  refine H_if_neN d_PG_wire_7 rfl (by omega) (fun c => by first | exact absurd c (by omega) | exact c.elim | exact absurd c (by decide) | exact absurd (by assumption) c | exact absurd c (by assumption) | exact absurd c (Int32.not_le.mpr (by assumption))) (fun _ => ?_)
  exact H_throw rfl d_PG_wire_10 d_PG_wire_13 d_PG_wire_14 d_PG_wire_17 th_cl th_in (by decide) (Nat.le_of_ble_eq_true rfl) (by decide) (by decide) (hQ _ hv2 hm4)
set_option maxRecDepth 100000 in
set_option maxHeartbeats 4000000 in
theorem t_PG_key_0_0_neg (G : GX) (hNT : G.1.stackTraces = false) (v : Nat → Int32) (z : Int32) (hz_n : z < 0) (hv : okv v) : CSx G mt_PG_key [.ref 61, .int (nI 0), .int (nI 0), .int z] v (fun _ v' => okv v' ∧ mdf [] v v') := by
  refine CSx.of hNT (by decide) (Nat.le_of_ble_eq_true rfl) ?_
  generalize hQe : (fun (_ : Option Value) (v' : Nat → Int32) => okv v' ∧ mdf [] v v') = Q
  have hQ : ∀ u, okv u → mdf [] v u → Q none u := by rw [← hQe]; exact fun u h1 h2 => ⟨h1, h2⟩
  clear hQe
  have hm : mdf [] v v := mdf.rf
  show SG ZX G mt_PG_key 0 [(0, .ref 61), (1, .int (nI 0)), (2, .int (nI 0)), (3, .int z)] [] v 0 0 Q
  refine SG.lift (fun _ _ k => G_iload_n d_PG_key_0 rfl k) ?_
  refine H_static (as := [.int (nI 0)]) (rest := []) d_PG_key_1 rfl (jw_PG_isSession.jo (by decide)) lm_PG_133 jt_PG_isSession rfl (Nat.le_of_ble_eq_true rfl) (by decide) (by decide) (c_PG_isSession G v 0 (by omega)) (fun r v' hq => ?_)
  rw [hq.1, hq.2]
  clear hq r v'
  show SG ZX G mt_PG_key 4 [(0, .ref 61), (1, .int (nI 0)), (2, .int (nI 0)), (3, .int z)] [.int (nI 1)] v 0 0 _
  refine H_if_eqN d_PG_key_4 rfl (by omega) (fun c => by first | exact absurd c (by omega) | exact c.elim | exact absurd c (by decide) | exact absurd (by assumption) c | exact absurd c (by assumption) | exact absurd c (Int32.not_le.mpr (by assumption))) (fun _ => ?_)
  refine SG.lift (fun _ _ k => G_iload_n d_PG_key_7 rfl k) ?_
  refine H_if_ltN d_PG_key_8 rfl (by omega) (fun c => by first | exact absurd c (by omega) | exact c.elim | exact absurd c (by decide) | exact absurd (by assumption) c | exact absurd c (by assumption) | exact absurd c (Int32.not_le.mpr (by assumption))) (fun _ => ?_)
  refine SG.lift (fun _ _ k => G_iload_n d_PG_key_11 rfl k) ?_
  refine SG.lift (fun _ _ k => G_iconst (v := nI 2) d_PG_key_12 (by decide) k) ?_
  refine H_icmp_gtN d_PG_key_13 rfl (by omega) (by omega) (fun c => by first | exact absurd c (by omega) | exact c.elim | exact absurd c (by decide) | exact absurd (by assumption) c | exact absurd c (by assumption) | exact absurd c (Int32.not_le.mpr (by assumption))) (fun _ => ?_)
  refine SG.lift (fun _ _ k => G_aload_n (v := .ref 61) d_PG_key_16 rfl (Or.inr ⟨_, rfl⟩) k) ?_
  refine H_getfield d_PG_key_17 fg_PG_34 (w61 _) rfl ?_
  refine SG.lift (fun _ _ k => G_iload_n d_PG_key_20 rfl k) ?_
  refine H_aaload (C0 := "PasswordGate$Session") d_PG_key_21 (by decide) (w264 _) rfl (vp_in_nI (by omega) (by omega)) ?_
  refine H_getfield d_PG_key_22 fg_PG_162 (w265 _) rfl ?_
  refine SG.lift (fun _ _ k => G_iload_n d_PG_key_25 rfl k) ?_
  refine H_aaload (C0 := "PasswordGate$Bytes") d_PG_key_26 (by decide) (w267 _) rfl (vp_in_nI (by omega) (by omega)) ?_
  refine SG.lift (fun _ _ k => G_iload_n d_PG_key_27 rfl k) ?_
  refine H_virtual (as := [.int z]) (rest := []) (b := 285) d_PG_key_28 rfl (jw_By_has.jo (by decide)) lm_PG_119 ji_By_has js_By_has (w285 _) rfl rfl rfl (Nat.le_of_ble_eq_true rfl) (by decide) (by decide) (c_By_has_neg G v 285 286 64 31 ⟨w285, a286, by decide, u285_1, by decide, by decide⟩ z hz_n hv) (fun r u1 hq => ?_)
  obtain ⟨hr, hv2, hm3⟩ := hq
  rw [hr]
  clear hr r
  have hm4 := hm.go hm3 (by intro i hi; simp only [List.mem_cons, List.not_mem_nil, or_false] at hi ⊢ <;> omega)
  show SG ZX G mt_PG_key 31 [(0, .ref 61), (1, .int (nI 0)), (2, .int (nI 0)), (3, .int z)] [.int (nI 0)] u1 0 0 _
  refine H_if_neN d_PG_key_31 rfl (by omega) (fun c => by first | exact absurd c (by omega) | exact c.elim | exact absurd c (by decide) | exact absurd (by assumption) c | exact absurd c (by assumption) | exact absurd c (Int32.not_le.mpr (by assumption))) (fun _ => ?_)
  exact H_throw rfl d_PG_key_34 d_PG_key_37 d_PG_key_38 d_PG_key_41 th_cl th_in (by decide) (Nat.le_of_ble_eq_true rfl) (by decide) (by decide) (hQ _ hv2 hm4)
set_option maxRecDepth 100000 in
set_option maxHeartbeats 4000000 in
theorem t_PG_key_0_0_out (G : GX) (hNT : G.1.stackTraces = false) (v : Nat → Int32) (i : Nat) (b_i : i < 2147483648) (k : Nat) (e31 : v 31 = nI k) (hk : k ≤ i ∧ k ≤ 64) (hv : okv v) : CSx G mt_PG_key [.ref 61, .int (nI 0), .int (nI 0), .int (nI i)] v (fun _ v' => okv v' ∧ mdf [] v v') := by
  refine CSx.of hNT (by decide) (Nat.le_of_ble_eq_true rfl) ?_
  generalize hQe : (fun (_ : Option Value) (v' : Nat → Int32) => okv v' ∧ mdf [] v v') = Q
  have hQ : ∀ u, okv u → mdf [] v u → Q none u := by rw [← hQe]; exact fun u h1 h2 => ⟨h1, h2⟩
  clear hQe
  have hm : mdf [] v v := mdf.rf
  show SG ZX G mt_PG_key 0 [(0, .ref 61), (1, .int (nI 0)), (2, .int (nI 0)), (3, .int (nI i))] [] v 0 0 Q
  refine SG.lift (fun _ _ k => G_iload_n d_PG_key_0 rfl k) ?_
  refine H_static (as := [.int (nI 0)]) (rest := []) d_PG_key_1 rfl (jw_PG_isSession.jo (by decide)) lm_PG_133 jt_PG_isSession rfl (Nat.le_of_ble_eq_true rfl) (by decide) (by decide) (c_PG_isSession G v 0 (by omega)) (fun r v' hq => ?_)
  rw [hq.1, hq.2]
  clear hq r v'
  show SG ZX G mt_PG_key 4 [(0, .ref 61), (1, .int (nI 0)), (2, .int (nI 0)), (3, .int (nI i))] [.int (nI 1)] v 0 0 _
  refine H_if_eqN d_PG_key_4 rfl (by omega) (fun c => by first | exact absurd c (by omega) | exact c.elim | exact absurd c (by decide) | exact absurd (by assumption) c | exact absurd c (by assumption) | exact absurd c (Int32.not_le.mpr (by assumption))) (fun _ => ?_)
  refine SG.lift (fun _ _ k => G_iload_n d_PG_key_7 rfl k) ?_
  refine H_if_ltN d_PG_key_8 rfl (by omega) (fun c => by first | exact absurd c (by omega) | exact c.elim | exact absurd c (by decide) | exact absurd (by assumption) c | exact absurd c (by assumption) | exact absurd c (Int32.not_le.mpr (by assumption))) (fun _ => ?_)
  refine SG.lift (fun _ _ k => G_iload_n d_PG_key_11 rfl k) ?_
  refine SG.lift (fun _ _ k => G_iconst (v := nI 2) d_PG_key_12 (by decide) k) ?_
  refine H_icmp_gtN d_PG_key_13 rfl (by omega) (by omega) (fun c => by first | exact absurd c (by omega) | exact c.elim | exact absurd c (by decide) | exact absurd (by assumption) c | exact absurd c (by assumption) | exact absurd c (Int32.not_le.mpr (by assumption))) (fun _ => ?_)
  refine SG.lift (fun _ _ k => G_aload_n (v := .ref 61) d_PG_key_16 rfl (Or.inr ⟨_, rfl⟩) k) ?_
  refine H_getfield d_PG_key_17 fg_PG_34 (w61 _) rfl ?_
  refine SG.lift (fun _ _ k => G_iload_n d_PG_key_20 rfl k) ?_
  refine H_aaload (C0 := "PasswordGate$Session") d_PG_key_21 (by decide) (w264 _) rfl (vp_in_nI (by omega) (by omega)) ?_
  refine H_getfield d_PG_key_22 fg_PG_162 (w265 _) rfl ?_
  refine SG.lift (fun _ _ k => G_iload_n d_PG_key_25 rfl k) ?_
  refine H_aaload (C0 := "PasswordGate$Bytes") d_PG_key_26 (by decide) (w267 _) rfl (vp_in_nI (by omega) (by omega)) ?_
  refine SG.lift (fun _ _ k => G_iload_n d_PG_key_27 rfl k) ?_
  refine H_virtual (as := [.int (nI i)]) (rest := []) (b := 285) d_PG_key_28 rfl (jw_By_has.jo (by decide)) lm_PG_119 ji_By_has js_By_has (w285 _) rfl rfl rfl (Nat.le_of_ble_eq_true rfl) (by decide) (by decide) (c_By_has_out G v 285 286 64 31 ⟨w285, a286, by decide, u285_1, by decide, by decide⟩ i (by omega) k e31 (by omega) hv) (fun r u1 hq => ?_)
  obtain ⟨hr, hv2, hm3, fe0_u1⟩ := hq
  rw [hr]
  clear hr r
  have hm4 := hm.go hm3 (by intro i hi; simp only [List.mem_cons, List.not_mem_nil, or_false] at hi ⊢ <;> omega)
  have e5 : u1 31 = nI k := (hm3 31 (by decide)).trans e31
  show SG ZX G mt_PG_key 31 [(0, .ref 61), (1, .int (nI 0)), (2, .int (nI 0)), (3, .int (nI i))] [.int (nI 0)] u1 0 0 _
  refine H_if_neN d_PG_key_31 rfl (by omega) (fun c => by first | exact absurd c (by omega) | exact c.elim | exact absurd c (by decide) | exact absurd (by assumption) c | exact absurd c (by assumption) | exact absurd c (Int32.not_le.mpr (by assumption))) (fun _ => ?_)
  exact H_throw rfl d_PG_key_34 d_PG_key_37 d_PG_key_38 d_PG_key_41 th_cl th_in (by decide) (Nat.le_of_ble_eq_true rfl) (by decide) (by decide) (hQ _ hv2 hm4)
set_option maxRecDepth 100000 in
set_option maxHeartbeats 4000000 in
theorem t_PG_key_0_1_neg (G : GX) (hNT : G.1.stackTraces = false) (v : Nat → Int32) (z : Int32) (hz_n : z < 0) (hv : okv v) : CSx G mt_PG_key [.ref 61, .int (nI 0), .int (nI 1), .int z] v (fun _ v' => okv v' ∧ mdf [] v v') := by
  refine CSx.of hNT (by decide) (Nat.le_of_ble_eq_true rfl) ?_
  generalize hQe : (fun (_ : Option Value) (v' : Nat → Int32) => okv v' ∧ mdf [] v v') = Q
  have hQ : ∀ u, okv u → mdf [] v u → Q none u := by rw [← hQe]; exact fun u h1 h2 => ⟨h1, h2⟩
  clear hQe
  have hm : mdf [] v v := mdf.rf
  show SG ZX G mt_PG_key 0 [(0, .ref 61), (1, .int (nI 0)), (2, .int (nI 1)), (3, .int z)] [] v 0 0 Q
  refine SG.lift (fun _ _ k => G_iload_n d_PG_key_0 rfl k) ?_
  refine H_static (as := [.int (nI 0)]) (rest := []) d_PG_key_1 rfl (jw_PG_isSession.jo (by decide)) lm_PG_133 jt_PG_isSession rfl (Nat.le_of_ble_eq_true rfl) (by decide) (by decide) (c_PG_isSession G v 0 (by omega)) (fun r v' hq => ?_)
  rw [hq.1, hq.2]
  clear hq r v'
  show SG ZX G mt_PG_key 4 [(0, .ref 61), (1, .int (nI 0)), (2, .int (nI 1)), (3, .int z)] [.int (nI 1)] v 0 0 _
  refine H_if_eqN d_PG_key_4 rfl (by omega) (fun c => by first | exact absurd c (by omega) | exact c.elim | exact absurd c (by decide) | exact absurd (by assumption) c | exact absurd c (by assumption) | exact absurd c (Int32.not_le.mpr (by assumption))) (fun _ => ?_)
  refine SG.lift (fun _ _ k => G_iload_n d_PG_key_7 rfl k) ?_
  refine H_if_ltN d_PG_key_8 rfl (by omega) (fun c => by first | exact absurd c (by omega) | exact c.elim | exact absurd c (by decide) | exact absurd (by assumption) c | exact absurd c (by assumption) | exact absurd c (Int32.not_le.mpr (by assumption))) (fun _ => ?_)
  refine SG.lift (fun _ _ k => G_iload_n d_PG_key_11 rfl k) ?_
  refine SG.lift (fun _ _ k => G_iconst (v := nI 2) d_PG_key_12 (by decide) k) ?_
  refine H_icmp_gtN d_PG_key_13 rfl (by omega) (by omega) (fun c => by first | exact absurd c (by omega) | exact c.elim | exact absurd c (by decide) | exact absurd (by assumption) c | exact absurd c (by assumption) | exact absurd c (Int32.not_le.mpr (by assumption))) (fun _ => ?_)
  refine SG.lift (fun _ _ k => G_aload_n (v := .ref 61) d_PG_key_16 rfl (Or.inr ⟨_, rfl⟩) k) ?_
  refine H_getfield d_PG_key_17 fg_PG_34 (w61 _) rfl ?_
  refine SG.lift (fun _ _ k => G_iload_n d_PG_key_20 rfl k) ?_
  refine H_aaload (C0 := "PasswordGate$Session") d_PG_key_21 (by decide) (w264 _) rfl (vp_in_nI (by omega) (by omega)) ?_
  refine H_getfield d_PG_key_22 fg_PG_162 (w265 _) rfl ?_
  refine SG.lift (fun _ _ k => G_iload_n d_PG_key_25 rfl k) ?_
  refine H_aaload (C0 := "PasswordGate$Bytes") d_PG_key_26 (by decide) (w267 _) rfl (vp_in_nI (by omega) (by omega)) ?_
  refine SG.lift (fun _ _ k => G_iload_n d_PG_key_27 rfl k) ?_
  refine H_virtual (as := [.int z]) (rest := []) (b := 287) d_PG_key_28 rfl (jw_By_has.jo (by decide)) lm_PG_119 ji_By_has js_By_has (w287 _) rfl rfl rfl (Nat.le_of_ble_eq_true rfl) (by decide) (by decide) (c_By_has_neg G v 287 288 64 32 ⟨w287, a288, by decide, u287_1, by decide, by decide⟩ z hz_n hv) (fun r u1 hq => ?_)
  obtain ⟨hr, hv2, hm3⟩ := hq
  rw [hr]
  clear hr r
  have hm4 := hm.go hm3 (by intro i hi; simp only [List.mem_cons, List.not_mem_nil, or_false] at hi ⊢ <;> omega)
  show SG ZX G mt_PG_key 31 [(0, .ref 61), (1, .int (nI 0)), (2, .int (nI 1)), (3, .int z)] [.int (nI 0)] u1 0 0 _
  refine H_if_neN d_PG_key_31 rfl (by omega) (fun c => by first | exact absurd c (by omega) | exact c.elim | exact absurd c (by decide) | exact absurd (by assumption) c | exact absurd c (by assumption) | exact absurd c (Int32.not_le.mpr (by assumption))) (fun _ => ?_)
  exact H_throw rfl d_PG_key_34 d_PG_key_37 d_PG_key_38 d_PG_key_41 th_cl th_in (by decide) (Nat.le_of_ble_eq_true rfl) (by decide) (by decide) (hQ _ hv2 hm4)
set_option maxRecDepth 100000 in
set_option maxHeartbeats 4000000 in
theorem t_PG_key_0_1_out (G : GX) (hNT : G.1.stackTraces = false) (v : Nat → Int32) (i : Nat) (b_i : i < 2147483648) (k : Nat) (e32 : v 32 = nI k) (hk : k ≤ i ∧ k ≤ 64) (hv : okv v) : CSx G mt_PG_key [.ref 61, .int (nI 0), .int (nI 1), .int (nI i)] v (fun _ v' => okv v' ∧ mdf [] v v') := by
  refine CSx.of hNT (by decide) (Nat.le_of_ble_eq_true rfl) ?_
  generalize hQe : (fun (_ : Option Value) (v' : Nat → Int32) => okv v' ∧ mdf [] v v') = Q
  have hQ : ∀ u, okv u → mdf [] v u → Q none u := by rw [← hQe]; exact fun u h1 h2 => ⟨h1, h2⟩
  clear hQe
  have hm : mdf [] v v := mdf.rf
  show SG ZX G mt_PG_key 0 [(0, .ref 61), (1, .int (nI 0)), (2, .int (nI 1)), (3, .int (nI i))] [] v 0 0 Q
  refine SG.lift (fun _ _ k => G_iload_n d_PG_key_0 rfl k) ?_
  refine H_static (as := [.int (nI 0)]) (rest := []) d_PG_key_1 rfl (jw_PG_isSession.jo (by decide)) lm_PG_133 jt_PG_isSession rfl (Nat.le_of_ble_eq_true rfl) (by decide) (by decide) (c_PG_isSession G v 0 (by omega)) (fun r v' hq => ?_)
  rw [hq.1, hq.2]
  clear hq r v'
  show SG ZX G mt_PG_key 4 [(0, .ref 61), (1, .int (nI 0)), (2, .int (nI 1)), (3, .int (nI i))] [.int (nI 1)] v 0 0 _
  refine H_if_eqN d_PG_key_4 rfl (by omega) (fun c => by first | exact absurd c (by omega) | exact c.elim | exact absurd c (by decide) | exact absurd (by assumption) c | exact absurd c (by assumption) | exact absurd c (Int32.not_le.mpr (by assumption))) (fun _ => ?_)
  refine SG.lift (fun _ _ k => G_iload_n d_PG_key_7 rfl k) ?_
  refine H_if_ltN d_PG_key_8 rfl (by omega) (fun c => by first | exact absurd c (by omega) | exact c.elim | exact absurd c (by decide) | exact absurd (by assumption) c | exact absurd c (by assumption) | exact absurd c (Int32.not_le.mpr (by assumption))) (fun _ => ?_)
  refine SG.lift (fun _ _ k => G_iload_n d_PG_key_11 rfl k) ?_
  refine SG.lift (fun _ _ k => G_iconst (v := nI 2) d_PG_key_12 (by decide) k) ?_
  refine H_icmp_gtN d_PG_key_13 rfl (by omega) (by omega) (fun c => by first | exact absurd c (by omega) | exact c.elim | exact absurd c (by decide) | exact absurd (by assumption) c | exact absurd c (by assumption) | exact absurd c (Int32.not_le.mpr (by assumption))) (fun _ => ?_)
  refine SG.lift (fun _ _ k => G_aload_n (v := .ref 61) d_PG_key_16 rfl (Or.inr ⟨_, rfl⟩) k) ?_
  refine H_getfield d_PG_key_17 fg_PG_34 (w61 _) rfl ?_
  refine SG.lift (fun _ _ k => G_iload_n d_PG_key_20 rfl k) ?_
  refine H_aaload (C0 := "PasswordGate$Session") d_PG_key_21 (by decide) (w264 _) rfl (vp_in_nI (by omega) (by omega)) ?_
  refine H_getfield d_PG_key_22 fg_PG_162 (w265 _) rfl ?_
  refine SG.lift (fun _ _ k => G_iload_n d_PG_key_25 rfl k) ?_
  refine H_aaload (C0 := "PasswordGate$Bytes") d_PG_key_26 (by decide) (w267 _) rfl (vp_in_nI (by omega) (by omega)) ?_
  refine SG.lift (fun _ _ k => G_iload_n d_PG_key_27 rfl k) ?_
  refine H_virtual (as := [.int (nI i)]) (rest := []) (b := 287) d_PG_key_28 rfl (jw_By_has.jo (by decide)) lm_PG_119 ji_By_has js_By_has (w287 _) rfl rfl rfl (Nat.le_of_ble_eq_true rfl) (by decide) (by decide) (c_By_has_out G v 287 288 64 32 ⟨w287, a288, by decide, u287_1, by decide, by decide⟩ i (by omega) k e32 (by omega) hv) (fun r u1 hq => ?_)
  obtain ⟨hr, hv2, hm3, fe0_u1⟩ := hq
  rw [hr]
  clear hr r
  have hm4 := hm.go hm3 (by intro i hi; simp only [List.mem_cons, List.not_mem_nil, or_false] at hi ⊢ <;> omega)
  have e5 : u1 32 = nI k := (hm3 32 (by decide)).trans e32
  show SG ZX G mt_PG_key 31 [(0, .ref 61), (1, .int (nI 0)), (2, .int (nI 1)), (3, .int (nI i))] [.int (nI 0)] u1 0 0 _
  refine H_if_neN d_PG_key_31 rfl (by omega) (fun c => by first | exact absurd c (by omega) | exact c.elim | exact absurd c (by decide) | exact absurd (by assumption) c | exact absurd c (by assumption) | exact absurd c (Int32.not_le.mpr (by assumption))) (fun _ => ?_)
  exact H_throw rfl d_PG_key_34 d_PG_key_37 d_PG_key_38 d_PG_key_41 th_cl th_in (by decide) (Nat.le_of_ble_eq_true rfl) (by decide) (by decide) (hQ _ hv2 hm4)
set_option maxRecDepth 100000 in
set_option maxHeartbeats 4000000 in
theorem t_PG_key_0_2_neg (G : GX) (hNT : G.1.stackTraces = false) (v : Nat → Int32) (z : Int32) (hz_n : z < 0) (hv : okv v) : CSx G mt_PG_key [.ref 61, .int (nI 0), .int (nI 2), .int z] v (fun _ v' => okv v' ∧ mdf [] v v') := by
  refine CSx.of hNT (by decide) (Nat.le_of_ble_eq_true rfl) ?_
  generalize hQe : (fun (_ : Option Value) (v' : Nat → Int32) => okv v' ∧ mdf [] v v') = Q
  have hQ : ∀ u, okv u → mdf [] v u → Q none u := by rw [← hQe]; exact fun u h1 h2 => ⟨h1, h2⟩
  clear hQe
  have hm : mdf [] v v := mdf.rf
  show SG ZX G mt_PG_key 0 [(0, .ref 61), (1, .int (nI 0)), (2, .int (nI 2)), (3, .int z)] [] v 0 0 Q
  refine SG.lift (fun _ _ k => G_iload_n d_PG_key_0 rfl k) ?_
  refine H_static (as := [.int (nI 0)]) (rest := []) d_PG_key_1 rfl (jw_PG_isSession.jo (by decide)) lm_PG_133 jt_PG_isSession rfl (Nat.le_of_ble_eq_true rfl) (by decide) (by decide) (c_PG_isSession G v 0 (by omega)) (fun r v' hq => ?_)
  rw [hq.1, hq.2]
  clear hq r v'
  show SG ZX G mt_PG_key 4 [(0, .ref 61), (1, .int (nI 0)), (2, .int (nI 2)), (3, .int z)] [.int (nI 1)] v 0 0 _
  refine H_if_eqN d_PG_key_4 rfl (by omega) (fun c => by first | exact absurd c (by omega) | exact c.elim | exact absurd c (by decide) | exact absurd (by assumption) c | exact absurd c (by assumption) | exact absurd c (Int32.not_le.mpr (by assumption))) (fun _ => ?_)
  refine SG.lift (fun _ _ k => G_iload_n d_PG_key_7 rfl k) ?_
  refine H_if_ltN d_PG_key_8 rfl (by omega) (fun c => by first | exact absurd c (by omega) | exact c.elim | exact absurd c (by decide) | exact absurd (by assumption) c | exact absurd c (by assumption) | exact absurd c (Int32.not_le.mpr (by assumption))) (fun _ => ?_)
  refine SG.lift (fun _ _ k => G_iload_n d_PG_key_11 rfl k) ?_
  refine SG.lift (fun _ _ k => G_iconst (v := nI 2) d_PG_key_12 (by decide) k) ?_
  refine H_icmp_gtN d_PG_key_13 rfl (by omega) (by omega) (fun c => by first | exact absurd c (by omega) | exact c.elim | exact absurd c (by decide) | exact absurd (by assumption) c | exact absurd c (by assumption) | exact absurd c (Int32.not_le.mpr (by assumption))) (fun _ => ?_)
  refine SG.lift (fun _ _ k => G_aload_n (v := .ref 61) d_PG_key_16 rfl (Or.inr ⟨_, rfl⟩) k) ?_
  refine H_getfield d_PG_key_17 fg_PG_34 (w61 _) rfl ?_
  refine SG.lift (fun _ _ k => G_iload_n d_PG_key_20 rfl k) ?_
  refine H_aaload (C0 := "PasswordGate$Session") d_PG_key_21 (by decide) (w264 _) rfl (vp_in_nI (by omega) (by omega)) ?_
  refine H_getfield d_PG_key_22 fg_PG_162 (w265 _) rfl ?_
  refine SG.lift (fun _ _ k => G_iload_n d_PG_key_25 rfl k) ?_
  refine H_aaload (C0 := "PasswordGate$Bytes") d_PG_key_26 (by decide) (w267 _) rfl (vp_in_nI (by omega) (by omega)) ?_
  refine SG.lift (fun _ _ k => G_iload_n d_PG_key_27 rfl k) ?_
  refine H_virtual (as := [.int z]) (rest := []) (b := 289) d_PG_key_28 rfl (jw_By_has.jo (by decide)) lm_PG_119 ji_By_has js_By_has (w289 _) rfl rfl rfl (Nat.le_of_ble_eq_true rfl) (by decide) (by decide) (c_By_has_neg G v 289 290 64 33 ⟨w289, a290, by decide, u289_1, by decide, by decide⟩ z hz_n hv) (fun r u1 hq => ?_)
  obtain ⟨hr, hv2, hm3⟩ := hq
  rw [hr]
  clear hr r
  have hm4 := hm.go hm3 (by intro i hi; simp only [List.mem_cons, List.not_mem_nil, or_false] at hi ⊢ <;> omega)
  show SG ZX G mt_PG_key 31 [(0, .ref 61), (1, .int (nI 0)), (2, .int (nI 2)), (3, .int z)] [.int (nI 0)] u1 0 0 _
  refine H_if_neN d_PG_key_31 rfl (by omega) (fun c => by first | exact absurd c (by omega) | exact c.elim | exact absurd c (by decide) | exact absurd (by assumption) c | exact absurd c (by assumption) | exact absurd c (Int32.not_le.mpr (by assumption))) (fun _ => ?_)
  exact H_throw rfl d_PG_key_34 d_PG_key_37 d_PG_key_38 d_PG_key_41 th_cl th_in (by decide) (Nat.le_of_ble_eq_true rfl) (by decide) (by decide) (hQ _ hv2 hm4)
set_option maxRecDepth 100000 in
set_option maxHeartbeats 4000000 in
theorem t_PG_key_0_2_out (G : GX) (hNT : G.1.stackTraces = false) (v : Nat → Int32) (i : Nat) (b_i : i < 2147483648) (k : Nat) (e33 : v 33 = nI k) (hk : k ≤ i ∧ k ≤ 64) (hv : okv v) : CSx G mt_PG_key [.ref 61, .int (nI 0), .int (nI 2), .int (nI i)] v (fun _ v' => okv v' ∧ mdf [] v v') := by
  refine CSx.of hNT (by decide) (Nat.le_of_ble_eq_true rfl) ?_
  generalize hQe : (fun (_ : Option Value) (v' : Nat → Int32) => okv v' ∧ mdf [] v v') = Q
  have hQ : ∀ u, okv u → mdf [] v u → Q none u := by rw [← hQe]; exact fun u h1 h2 => ⟨h1, h2⟩
  clear hQe
  have hm : mdf [] v v := mdf.rf
  show SG ZX G mt_PG_key 0 [(0, .ref 61), (1, .int (nI 0)), (2, .int (nI 2)), (3, .int (nI i))] [] v 0 0 Q
  refine SG.lift (fun _ _ k => G_iload_n d_PG_key_0 rfl k) ?_
  refine H_static (as := [.int (nI 0)]) (rest := []) d_PG_key_1 rfl (jw_PG_isSession.jo (by decide)) lm_PG_133 jt_PG_isSession rfl (Nat.le_of_ble_eq_true rfl) (by decide) (by decide) (c_PG_isSession G v 0 (by omega)) (fun r v' hq => ?_)
  rw [hq.1, hq.2]
  clear hq r v'
  show SG ZX G mt_PG_key 4 [(0, .ref 61), (1, .int (nI 0)), (2, .int (nI 2)), (3, .int (nI i))] [.int (nI 1)] v 0 0 _
  refine H_if_eqN d_PG_key_4 rfl (by omega) (fun c => by first | exact absurd c (by omega) | exact c.elim | exact absurd c (by decide) | exact absurd (by assumption) c | exact absurd c (by assumption) | exact absurd c (Int32.not_le.mpr (by assumption))) (fun _ => ?_)
  refine SG.lift (fun _ _ k => G_iload_n d_PG_key_7 rfl k) ?_
  refine H_if_ltN d_PG_key_8 rfl (by omega) (fun c => by first | exact absurd c (by omega) | exact c.elim | exact absurd c (by decide) | exact absurd (by assumption) c | exact absurd c (by assumption) | exact absurd c (Int32.not_le.mpr (by assumption))) (fun _ => ?_)
  refine SG.lift (fun _ _ k => G_iload_n d_PG_key_11 rfl k) ?_
  refine SG.lift (fun _ _ k => G_iconst (v := nI 2) d_PG_key_12 (by decide) k) ?_
  refine H_icmp_gtN d_PG_key_13 rfl (by omega) (by omega) (fun c => by first | exact absurd c (by omega) | exact c.elim | exact absurd c (by decide) | exact absurd (by assumption) c | exact absurd c (by assumption) | exact absurd c (Int32.not_le.mpr (by assumption))) (fun _ => ?_)
  refine SG.lift (fun _ _ k => G_aload_n (v := .ref 61) d_PG_key_16 rfl (Or.inr ⟨_, rfl⟩) k) ?_
  refine H_getfield d_PG_key_17 fg_PG_34 (w61 _) rfl ?_
  refine SG.lift (fun _ _ k => G_iload_n d_PG_key_20 rfl k) ?_
  refine H_aaload (C0 := "PasswordGate$Session") d_PG_key_21 (by decide) (w264 _) rfl (vp_in_nI (by omega) (by omega)) ?_
  refine H_getfield d_PG_key_22 fg_PG_162 (w265 _) rfl ?_
  refine SG.lift (fun _ _ k => G_iload_n d_PG_key_25 rfl k) ?_
  refine H_aaload (C0 := "PasswordGate$Bytes") d_PG_key_26 (by decide) (w267 _) rfl (vp_in_nI (by omega) (by omega)) ?_
  refine SG.lift (fun _ _ k => G_iload_n d_PG_key_27 rfl k) ?_
  refine H_virtual (as := [.int (nI i)]) (rest := []) (b := 289) d_PG_key_28 rfl (jw_By_has.jo (by decide)) lm_PG_119 ji_By_has js_By_has (w289 _) rfl rfl rfl (Nat.le_of_ble_eq_true rfl) (by decide) (by decide) (c_By_has_out G v 289 290 64 33 ⟨w289, a290, by decide, u289_1, by decide, by decide⟩ i (by omega) k e33 (by omega) hv) (fun r u1 hq => ?_)
  obtain ⟨hr, hv2, hm3, fe0_u1⟩ := hq
  rw [hr]
  clear hr r
  have hm4 := hm.go hm3 (by intro i hi; simp only [List.mem_cons, List.not_mem_nil, or_false] at hi ⊢ <;> omega)
  have e5 : u1 33 = nI k := (hm3 33 (by decide)).trans e33
  show SG ZX G mt_PG_key 31 [(0, .ref 61), (1, .int (nI 0)), (2, .int (nI 2)), (3, .int (nI i))] [.int (nI 0)] u1 0 0 _
  refine H_if_neN d_PG_key_31 rfl (by omega) (fun c => by first | exact absurd c (by omega) | exact c.elim | exact absurd c (by decide) | exact absurd (by assumption) c | exact absurd c (by assumption) | exact absurd c (Int32.not_le.mpr (by assumption))) (fun _ => ?_)
  exact H_throw rfl d_PG_key_34 d_PG_key_37 d_PG_key_38 d_PG_key_41 th_cl th_in (by decide) (Nat.le_of_ble_eq_true rfl) (by decide) (by decide) (hQ _ hv2 hm4)
set_option maxRecDepth 100000 in
set_option maxHeartbeats 4000000 in
theorem t_PG_wire_1_mlt (G : GX) (hNT : G.1.stackTraces = false) (v : Nat → Int32) (y : Int32) (z : Int32) (hy_m : y < nI 1) (hv : okv v) : CSx G mt_PG_wire [.ref 61, .int (nI 1), .int y, .int z] v (fun _ v' => okv v' ∧ mdf [] v v') := by
  refine CSx.of hNT (by decide) (Nat.le_of_ble_eq_true rfl) ?_
  generalize hQe : (fun (_ : Option Value) (v' : Nat → Int32) => okv v' ∧ mdf [] v v') = Q
  have hQ : ∀ u, okv u → mdf [] v u → Q none u := by rw [← hQe]; exact fun u h1 h2 => ⟨h1, h2⟩
  clear hQe
  have hm : mdf [] v v := mdf.rf
  show SG ZX G mt_PG_wire 0 [(0, .ref 61), (1, .int (nI 1)), (2, .int y), (3, .int z)] [] v 0 0 Q
  refine SG.lift (fun _ _ k => G_aload_n (v := .ref 61) d_PG_wire_0 rfl (Or.inr ⟨_, rfl⟩) k) ?_
  refine SG.lift (fun _ _ k => G_iload_n d_PG_wire_1 rfl k) ?_
  refine SG.lift (fun _ _ k => G_iload_n d_PG_wire_2 rfl k) ?_
  refine SG.lift (fun _ _ k => G_iload_n d_PG_wire_3 rfl k) ?_
  refine H_virtual (as := [.int (nI 1), .int y, .int z]) (rest := []) (b := 61) d_PG_wire_4 rfl (jw_PG_isOnWire.jo (by decide)) lm_PG_154 ji_PG_isOnWire js_PG_isOnWire (w61 _) rfl rfl rfl (Nat.le_of_ble_eq_true rfl) (by decide) (by decide) (c_PG_isOnWire_1_mlt G v y z hy_m hv) (fun r u1 hq => ?_)
  obtain ⟨hr, hv2, hm3⟩ := hq
  rw [hr]
  clear hr r
  have hm4 := hm.go hm3 (by intro i hi; simp only [List.mem_cons, List.not_mem_nil, or_false] at hi ⊢ <;> omega)
  show SG ZX G mt_PG_wire 7 [(0, .ref 61), (1, .int (nI 1)), (2, .int y), (3, .int z)] [.int (nI 0)] u1 0 0 _
  refine H_if_neN d_PG_wire_7 rfl (by omega) (fun c => by first | exact absurd c (by omega) | exact c.elim | exact absurd c (by decide) | exact absurd (by assumption) c | exact absurd c (by assumption) | exact absurd c (Int32.not_le.mpr (by assumption))) (fun _ => ?_)
  exact H_throw rfl d_PG_wire_10 d_PG_wire_13 d_PG_wire_14 d_PG_wire_17 th_cl th_in (by decide) (Nat.le_of_ble_eq_true rfl) (by decide) (by decide) (hQ _ hv2 hm4)
set_option maxRecDepth 100000 in
set_option maxHeartbeats 4000000 in
theorem t_PG_wire_1_mgt (G : GX) (hNT : G.1.stackTraces = false) (v : Nat → Int32) (y : Int32) (z : Int32) (h0_m : ¬ y < nI 1) (hy_m : nI 3 < y) (hv : okv v) : CSx G mt_PG_wire [.ref 61, .int (nI 1), .int y, .int z] v (fun _ v' => okv v' ∧ mdf [] v v') := by
  refine CSx.of hNT (by decide) (Nat.le_of_ble_eq_true rfl) ?_
  generalize hQe : (fun (_ : Option Value) (v' : Nat → Int32) => okv v' ∧ mdf [] v v') = Q
  have hQ : ∀ u, okv u → mdf [] v u → Q none u := by rw [← hQe]; exact fun u h1 h2 => ⟨h1, h2⟩
  clear hQe
  have hm : mdf [] v v := mdf.rf
  show SG ZX G mt_PG_wire 0 [(0, .ref 61), (1, .int (nI 1)), (2, .int y), (3, .int z)] [] v 0 0 Q
  refine SG.lift (fun _ _ k => G_aload_n (v := .ref 61) d_PG_wire_0 rfl (Or.inr ⟨_, rfl⟩) k) ?_
  refine SG.lift (fun _ _ k => G_iload_n d_PG_wire_1 rfl k) ?_
  refine SG.lift (fun _ _ k => G_iload_n d_PG_wire_2 rfl k) ?_
  refine SG.lift (fun _ _ k => G_iload_n d_PG_wire_3 rfl k) ?_
  refine H_virtual (as := [.int (nI 1), .int y, .int z]) (rest := []) (b := 61) d_PG_wire_4 rfl (jw_PG_isOnWire.jo (by decide)) lm_PG_154 ji_PG_isOnWire js_PG_isOnWire (w61 _) rfl rfl rfl (Nat.le_of_ble_eq_true rfl) (by decide) (by decide) (c_PG_isOnWire_1_mgt G v y z h0_m hy_m hv) (fun r u1 hq => ?_)
  obtain ⟨hr, hv2, hm3⟩ := hq
  rw [hr]
  clear hr r
  have hm4 := hm.go hm3 (by intro i hi; simp only [List.mem_cons, List.not_mem_nil, or_false] at hi ⊢ <;> omega)
  show SG ZX G mt_PG_wire 7 [(0, .ref 61), (1, .int (nI 1)), (2, .int y), (3, .int z)] [.int (nI 0)] u1 0 0 _
  refine H_if_neN d_PG_wire_7 rfl (by omega) (fun c => by first | exact absurd c (by omega) | exact c.elim | exact absurd c (by decide) | exact absurd (by assumption) c | exact absurd c (by assumption) | exact absurd c (Int32.not_le.mpr (by assumption))) (fun _ => ?_)
  exact H_throw rfl d_PG_wire_10 d_PG_wire_13 d_PG_wire_14 d_PG_wire_17 th_cl th_in (by decide) (Nat.le_of_ble_eq_true rfl) (by decide) (by decide) (hQ _ hv2 hm4)
set_option maxRecDepth 100000 in
set_option maxHeartbeats 4000000 in
theorem t_PG_key_1_lt (G : GX) (hNT : G.1.stackTraces = false) (v : Nat → Int32) (y : Int32) (z : Int32) (hy : y < 0) (hv : okv v) : CSx G mt_PG_key [.ref 61, .int (nI 1), .int y, .int z] v (fun _ v' => okv v' ∧ mdf [] v v') := by
  refine CSx.of hNT (by decide) (Nat.le_of_ble_eq_true rfl) ?_
  generalize hQe : (fun (_ : Option Value) (v' : Nat → Int32) => okv v' ∧ mdf [] v v') = Q
  have hQ : ∀ u, okv u → mdf [] v u → Q none u := by rw [← hQe]; exact fun u h1 h2 => ⟨h1, h2⟩
  clear hQe
  have hm : mdf [] v v := mdf.rf
  show SG ZX G mt_PG_key 0 [(0, .ref 61), (1, .int (nI 1)), (2, .int y), (3, .int z)] [] v 0 0 Q
  refine SG.lift (fun _ _ k => G_iload_n d_PG_key_0 rfl k) ?_
  refine H_static (as := [.int (nI 1)]) (rest := []) d_PG_key_1 rfl (jw_PG_isSession.jo (by decide)) lm_PG_133 jt_PG_isSession rfl (Nat.le_of_ble_eq_true rfl) (by decide) (by decide) (c_PG_isSession G v 1 (by omega)) (fun r v' hq => ?_)
  rw [hq.1, hq.2]
  clear hq r v'
  show SG ZX G mt_PG_key 4 [(0, .ref 61), (1, .int (nI 1)), (2, .int y), (3, .int z)] [.int (nI 1)] v 0 0 _
  refine H_if_eqN d_PG_key_4 rfl (by omega) (fun c => by first | exact absurd c (by omega) | exact c.elim | exact absurd c (by decide) | exact absurd (by assumption) c | exact absurd c (by assumption) | exact absurd c (Int32.not_le.mpr (by assumption))) (fun _ => ?_)
  refine SG.lift (fun _ _ k => G_iload_n d_PG_key_7 rfl k) ?_
  refine H_if_lt d_PG_key_8 rfl (fun _ => ?_) (fun c => by first | exact absurd c (by omega) | exact c.elim | exact absurd c (by decide) | exact absurd (by assumption) c | exact absurd c (by assumption) | exact absurd c (Int32.not_le.mpr (by assumption)))
  exact H_throw rfl d_PG_key_34 d_PG_key_37 d_PG_key_38 d_PG_key_41 th_cl th_in (by decide) (Nat.le_of_ble_eq_true rfl) (by decide) (by decide) (hQ _ hv hm)
set_option maxRecDepth 100000 in
set_option maxHeartbeats 4000000 in
theorem t_PG_key_1_gt (G : GX) (hNT : G.1.stackTraces = false) (v : Nat → Int32) (y : Int32) (z : Int32) (h0 : ¬ y < 0) (hy : nI 2 < y) (hv : okv v) : CSx G mt_PG_key [.ref 61, .int (nI 1), .int y, .int z] v (fun _ v' => okv v' ∧ mdf [] v v') := by
  refine CSx.of hNT (by decide) (Nat.le_of_ble_eq_true rfl) ?_
  generalize hQe : (fun (_ : Option Value) (v' : Nat → Int32) => okv v' ∧ mdf [] v v') = Q
  have hQ : ∀ u, okv u → mdf [] v u → Q none u := by rw [← hQe]; exact fun u h1 h2 => ⟨h1, h2⟩
  clear hQe
  have hm : mdf [] v v := mdf.rf
  show SG ZX G mt_PG_key 0 [(0, .ref 61), (1, .int (nI 1)), (2, .int y), (3, .int z)] [] v 0 0 Q
  refine SG.lift (fun _ _ k => G_iload_n d_PG_key_0 rfl k) ?_
  refine H_static (as := [.int (nI 1)]) (rest := []) d_PG_key_1 rfl (jw_PG_isSession.jo (by decide)) lm_PG_133 jt_PG_isSession rfl (Nat.le_of_ble_eq_true rfl) (by decide) (by decide) (c_PG_isSession G v 1 (by omega)) (fun r v' hq => ?_)
  rw [hq.1, hq.2]
  clear hq r v'
  show SG ZX G mt_PG_key 4 [(0, .ref 61), (1, .int (nI 1)), (2, .int y), (3, .int z)] [.int (nI 1)] v 0 0 _
  refine H_if_eqN d_PG_key_4 rfl (by omega) (fun c => by first | exact absurd c (by omega) | exact c.elim | exact absurd c (by decide) | exact absurd (by assumption) c | exact absurd c (by assumption) | exact absurd c (Int32.not_le.mpr (by assumption))) (fun _ => ?_)
  refine SG.lift (fun _ _ k => G_iload_n d_PG_key_7 rfl k) ?_
  refine H_if_lt d_PG_key_8 rfl (fun c => by first | exact absurd c (by omega) | exact c.elim | exact absurd c (by decide) | exact absurd (by assumption) c | exact absurd c (by assumption) | exact absurd c (Int32.not_le.mpr (by assumption))) (fun _ => ?_)
  refine SG.lift (fun _ _ k => G_iload_n d_PG_key_11 rfl k) ?_
  refine SG.lift (fun _ _ k => G_iconst (v := nI 2) d_PG_key_12 (by decide) k) ?_
  refine H_icmp_gt d_PG_key_13 rfl (fun _ => ?_) (fun c => by first | exact absurd c (by omega) | exact c.elim | exact absurd c (by decide) | exact absurd (by assumption) c | exact absurd c (by assumption) | exact absurd c (Int32.not_le.mpr (by assumption)))
  exact H_throw rfl d_PG_key_34 d_PG_key_37 d_PG_key_38 d_PG_key_41 th_cl th_in (by decide) (Nat.le_of_ble_eq_true rfl) (by decide) (by decide) (hQ _ hv hm)
set_option maxRecDepth 100000 in
set_option maxHeartbeats 4000000 in
theorem t_PG_wire_1_1_neg (G : GX) (hNT : G.1.stackTraces = false) (v : Nat → Int32) (z : Int32) (hz_n : z < 0) (hv : okv v) : CSx G mt_PG_wire [.ref 61, .int (nI 1), .int (nI 1), .int z] v (fun _ v' => okv v' ∧ mdf [] v v') := by
  refine CSx.of hNT (by decide) (Nat.le_of_ble_eq_true rfl) ?_
  generalize hQe : (fun (_ : Option Value) (v' : Nat → Int32) => okv v' ∧ mdf [] v v') = Q
  have hQ : ∀ u, okv u → mdf [] v u → Q none u := by rw [← hQe]; exact fun u h1 h2 => ⟨h1, h2⟩
  clear hQe
  have hm : mdf [] v v := mdf.rf
  show SG ZX G mt_PG_wire 0 [(0, .ref 61), (1, .int (nI 1)), (2, .int (nI 1)), (3, .int z)] [] v 0 0 Q
  refine SG.lift (fun _ _ k => G_aload_n (v := .ref 61) d_PG_wire_0 rfl (Or.inr ⟨_, rfl⟩) k) ?_
  refine SG.lift (fun _ _ k => G_iload_n d_PG_wire_1 rfl k) ?_
  refine SG.lift (fun _ _ k => G_iload_n d_PG_wire_2 rfl k) ?_
  refine SG.lift (fun _ _ k => G_iload_n d_PG_wire_3 rfl k) ?_
  refine H_virtual (as := [.int (nI 1), .int (nI 1), .int z]) (rest := []) (b := 61) d_PG_wire_4 rfl (jw_PG_isOnWire.jo (by decide)) lm_PG_154 ji_PG_isOnWire js_PG_isOnWire (w61 _) rfl rfl rfl (Nat.le_of_ble_eq_true rfl) (by decide) (by decide) (c_PG_isOnWire_1_1_neg G v z hz_n hv) (fun r u1 hq => ?_)
  obtain ⟨hr, hv2, hm3⟩ := hq
  rw [hr]
  clear hr r
  have hm4 := hm.go hm3 (by intro i hi; simp only [List.mem_cons, List.not_mem_nil, or_false] at hi ⊢ <;> omega)
  show SG ZX G mt_PG_wire 7 [(0, .ref 61), (1, .int (nI 1)), (2, .int (nI 1)), (3, .int z)] [.int (nI 0)] u1 0 0 _
  refine H_if_neN d_PG_wire_7 rfl (by omega) (fun c => by first | exact absurd c (by omega) | exact c.elim | exact absurd c (by decide) | exact absurd (by assumption) c | exact absurd c (by assumption) | exact absurd c (Int32.not_le.mpr (by assumption))) (fun _ => ?_)
  exact H_throw rfl d_PG_wire_10 d_PG_wire_13 d_PG_wire_14 d_PG_wire_17 th_cl th_in (by decide) (Nat.le_of_ble_eq_true rfl) (by decide) (by decide) (hQ _ hv2 hm4)
set_option maxRecDepth 100000 in
set_option maxHeartbeats 4000000 in
theorem t_PG_wire_1_1_out (G : GX) (hNT : G.1.stackTraces = false) (v : Nat → Int32) (i : Nat) (b_i : i < 2147483648) (k : Nat) (e38 : v 38 = nI k) (hk : k ≤ i ∧ k ≤ 96) (hv : okv v) : CSx G mt_PG_wire [.ref 61, .int (nI 1), .int (nI 1), .int (nI i)] v (fun _ v' => okv v' ∧ mdf [] v v') := by
  refine CSx.of hNT (by decide) (Nat.le_of_ble_eq_true rfl) ?_
  generalize hQe : (fun (_ : Option Value) (v' : Nat → Int32) => okv v' ∧ mdf [] v v') = Q
  have hQ : ∀ u, okv u → mdf [] v u → Q none u := by rw [← hQe]; exact fun u h1 h2 => ⟨h1, h2⟩
  clear hQe
  have hm : mdf [] v v := mdf.rf
  show SG ZX G mt_PG_wire 0 [(0, .ref 61), (1, .int (nI 1)), (2, .int (nI 1)), (3, .int (nI i))] [] v 0 0 Q
  refine SG.lift (fun _ _ k => G_aload_n (v := .ref 61) d_PG_wire_0 rfl (Or.inr ⟨_, rfl⟩) k) ?_
  refine SG.lift (fun _ _ k => G_iload_n d_PG_wire_1 rfl k) ?_
  refine SG.lift (fun _ _ k => G_iload_n d_PG_wire_2 rfl k) ?_
  refine SG.lift (fun _ _ k => G_iload_n d_PG_wire_3 rfl k) ?_
  refine H_virtual (as := [.int (nI 1), .int (nI 1), .int (nI i)]) (rest := []) (b := 61) d_PG_wire_4 rfl (jw_PG_isOnWire.jo (by decide)) lm_PG_154 ji_PG_isOnWire js_PG_isOnWire (w61 _) rfl rfl rfl (Nat.le_of_ble_eq_true rfl) (by decide) (by decide) (c_PG_isOnWire_1_1_out G v i (by omega) k e38 (by omega) hv) (fun r u1 hq => ?_)
  obtain ⟨hr, hv2, hm3, fe0_u1⟩ := hq
  rw [hr]
  clear hr r
  have hm4 := hm.go hm3 (by intro i hi; simp only [List.mem_cons, List.not_mem_nil, or_false] at hi ⊢ <;> omega)
  have e5 : u1 38 = nI k := (hm3 38 (by decide)).trans e38
  show SG ZX G mt_PG_wire 7 [(0, .ref 61), (1, .int (nI 1)), (2, .int (nI 1)), (3, .int (nI i))] [.int (nI 0)] u1 0 0 _
  refine H_if_neN d_PG_wire_7 rfl (by omega) (fun c => by first | exact absurd c (by omega) | exact c.elim | exact absurd c (by decide) | exact absurd (by assumption) c | exact absurd c (by assumption) | exact absurd c (Int32.not_le.mpr (by assumption))) (fun _ => ?_)
  exact H_throw rfl d_PG_wire_10 d_PG_wire_13 d_PG_wire_14 d_PG_wire_17 th_cl th_in (by decide) (Nat.le_of_ble_eq_true rfl) (by decide) (by decide) (hQ _ hv2 hm4)
set_option maxRecDepth 100000 in
set_option maxHeartbeats 4000000 in
theorem t_PG_wire_1_2_neg (G : GX) (hNT : G.1.stackTraces = false) (v : Nat → Int32) (z : Int32) (hz_n : z < 0) (hv : okv v) : CSx G mt_PG_wire [.ref 61, .int (nI 1), .int (nI 2), .int z] v (fun _ v' => okv v' ∧ mdf [] v v') := by
  refine CSx.of hNT (by decide) (Nat.le_of_ble_eq_true rfl) ?_
  generalize hQe : (fun (_ : Option Value) (v' : Nat → Int32) => okv v' ∧ mdf [] v v') = Q
  have hQ : ∀ u, okv u → mdf [] v u → Q none u := by rw [← hQe]; exact fun u h1 h2 => ⟨h1, h2⟩
  clear hQe
  have hm : mdf [] v v := mdf.rf
  show SG ZX G mt_PG_wire 0 [(0, .ref 61), (1, .int (nI 1)), (2, .int (nI 2)), (3, .int z)] [] v 0 0 Q
  refine SG.lift (fun _ _ k => G_aload_n (v := .ref 61) d_PG_wire_0 rfl (Or.inr ⟨_, rfl⟩) k) ?_
  refine SG.lift (fun _ _ k => G_iload_n d_PG_wire_1 rfl k) ?_
  refine SG.lift (fun _ _ k => G_iload_n d_PG_wire_2 rfl k) ?_
  refine SG.lift (fun _ _ k => G_iload_n d_PG_wire_3 rfl k) ?_
  refine H_virtual (as := [.int (nI 1), .int (nI 2), .int z]) (rest := []) (b := 61) d_PG_wire_4 rfl (jw_PG_isOnWire.jo (by decide)) lm_PG_154 ji_PG_isOnWire js_PG_isOnWire (w61 _) rfl rfl rfl (Nat.le_of_ble_eq_true rfl) (by decide) (by decide) (c_PG_isOnWire_1_2_neg G v z hz_n hv) (fun r u1 hq => ?_)
  obtain ⟨hr, hv2, hm3⟩ := hq
  rw [hr]
  clear hr r
  have hm4 := hm.go hm3 (by intro i hi; simp only [List.mem_cons, List.not_mem_nil, or_false] at hi ⊢ <;> omega)
  show SG ZX G mt_PG_wire 7 [(0, .ref 61), (1, .int (nI 1)), (2, .int (nI 2)), (3, .int z)] [.int (nI 0)] u1 0 0 _
  refine H_if_neN d_PG_wire_7 rfl (by omega) (fun c => by first | exact absurd c (by omega) | exact c.elim | exact absurd c (by decide) | exact absurd (by assumption) c | exact absurd c (by assumption) | exact absurd c (Int32.not_le.mpr (by assumption))) (fun _ => ?_)
  exact H_throw rfl d_PG_wire_10 d_PG_wire_13 d_PG_wire_14 d_PG_wire_17 th_cl th_in (by decide) (Nat.le_of_ble_eq_true rfl) (by decide) (by decide) (hQ _ hv2 hm4)
set_option maxRecDepth 100000 in
set_option maxHeartbeats 4000000 in
theorem t_PG_wire_1_2_out (G : GX) (hNT : G.1.stackTraces = false) (v : Nat → Int32) (i : Nat) (b_i : i < 2147483648) (k : Nat) (e39 : v 39 = nI k) (hk : k ≤ i ∧ k ≤ 320) (hv : okv v) : CSx G mt_PG_wire [.ref 61, .int (nI 1), .int (nI 2), .int (nI i)] v (fun _ v' => okv v' ∧ mdf [] v v') := by
  refine CSx.of hNT (by decide) (Nat.le_of_ble_eq_true rfl) ?_
  generalize hQe : (fun (_ : Option Value) (v' : Nat → Int32) => okv v' ∧ mdf [] v v') = Q
  have hQ : ∀ u, okv u → mdf [] v u → Q none u := by rw [← hQe]; exact fun u h1 h2 => ⟨h1, h2⟩
  clear hQe
  have hm : mdf [] v v := mdf.rf
  show SG ZX G mt_PG_wire 0 [(0, .ref 61), (1, .int (nI 1)), (2, .int (nI 2)), (3, .int (nI i))] [] v 0 0 Q
  refine SG.lift (fun _ _ k => G_aload_n (v := .ref 61) d_PG_wire_0 rfl (Or.inr ⟨_, rfl⟩) k) ?_
  refine SG.lift (fun _ _ k => G_iload_n d_PG_wire_1 rfl k) ?_
  refine SG.lift (fun _ _ k => G_iload_n d_PG_wire_2 rfl k) ?_
  refine SG.lift (fun _ _ k => G_iload_n d_PG_wire_3 rfl k) ?_
  refine H_virtual (as := [.int (nI 1), .int (nI 2), .int (nI i)]) (rest := []) (b := 61) d_PG_wire_4 rfl (jw_PG_isOnWire.jo (by decide)) lm_PG_154 ji_PG_isOnWire js_PG_isOnWire (w61 _) rfl rfl rfl (Nat.le_of_ble_eq_true rfl) (by decide) (by decide) (c_PG_isOnWire_1_2_out G v i (by omega) k e39 (by omega) hv) (fun r u1 hq => ?_)
  obtain ⟨hr, hv2, hm3, fe0_u1⟩ := hq
  rw [hr]
  clear hr r
  have hm4 := hm.go hm3 (by intro i hi; simp only [List.mem_cons, List.not_mem_nil, or_false] at hi ⊢ <;> omega)
  have e5 : u1 39 = nI k := (hm3 39 (by decide)).trans e39
  show SG ZX G mt_PG_wire 7 [(0, .ref 61), (1, .int (nI 1)), (2, .int (nI 2)), (3, .int (nI i))] [.int (nI 0)] u1 0 0 _
  refine H_if_neN d_PG_wire_7 rfl (by omega) (fun c => by first | exact absurd c (by omega) | exact c.elim | exact absurd c (by decide) | exact absurd (by assumption) c | exact absurd c (by assumption) | exact absurd c (Int32.not_le.mpr (by assumption))) (fun _ => ?_)
  exact H_throw rfl d_PG_wire_10 d_PG_wire_13 d_PG_wire_14 d_PG_wire_17 th_cl th_in (by decide) (Nat.le_of_ble_eq_true rfl) (by decide) (by decide) (hQ _ hv2 hm4)
set_option maxRecDepth 100000 in
set_option maxHeartbeats 4000000 in
theorem t_PG_wire_1_3_neg (G : GX) (hNT : G.1.stackTraces = false) (v : Nat → Int32) (z : Int32) (hz_n : z < 0) (hv : okv v) : CSx G mt_PG_wire [.ref 61, .int (nI 1), .int (nI 3), .int z] v (fun _ v' => okv v' ∧ mdf [] v v') := by
  refine CSx.of hNT (by decide) (Nat.le_of_ble_eq_true rfl) ?_
  generalize hQe : (fun (_ : Option Value) (v' : Nat → Int32) => okv v' ∧ mdf [] v v') = Q
  have hQ : ∀ u, okv u → mdf [] v u → Q none u := by rw [← hQe]; exact fun u h1 h2 => ⟨h1, h2⟩
  clear hQe
  have hm : mdf [] v v := mdf.rf
  show SG ZX G mt_PG_wire 0 [(0, .ref 61), (1, .int (nI 1)), (2, .int (nI 3)), (3, .int z)] [] v 0 0 Q
  refine SG.lift (fun _ _ k => G_aload_n (v := .ref 61) d_PG_wire_0 rfl (Or.inr ⟨_, rfl⟩) k) ?_
  refine SG.lift (fun _ _ k => G_iload_n d_PG_wire_1 rfl k) ?_
  refine SG.lift (fun _ _ k => G_iload_n d_PG_wire_2 rfl k) ?_
  refine SG.lift (fun _ _ k => G_iload_n d_PG_wire_3 rfl k) ?_
  refine H_virtual (as := [.int (nI 1), .int (nI 3), .int z]) (rest := []) (b := 61) d_PG_wire_4 rfl (jw_PG_isOnWire.jo (by decide)) lm_PG_154 ji_PG_isOnWire js_PG_isOnWire (w61 _) rfl rfl rfl (Nat.le_of_ble_eq_true rfl) (by decide) (by decide) (c_PG_isOnWire_1_3_neg G v z hz_n hv) (fun r u1 hq => ?_)
  obtain ⟨hr, hv2, hm3⟩ := hq
  rw [hr]
  clear hr r
  have hm4 := hm.go hm3 (by intro i hi; simp only [List.mem_cons, List.not_mem_nil, or_false] at hi ⊢ <;> omega)
  show SG ZX G mt_PG_wire 7 [(0, .ref 61), (1, .int (nI 1)), (2, .int (nI 3)), (3, .int z)] [.int (nI 0)] u1 0 0 _
  refine H_if_neN d_PG_wire_7 rfl (by omega) (fun c => by first | exact absurd c (by omega) | exact c.elim | exact absurd c (by decide) | exact absurd (by assumption) c | exact absurd c (by assumption) | exact absurd c (Int32.not_le.mpr (by assumption))) (fun _ => ?_)
  exact H_throw rfl d_PG_wire_10 d_PG_wire_13 d_PG_wire_14 d_PG_wire_17 th_cl th_in (by decide) (Nat.le_of_ble_eq_true rfl) (by decide) (by decide) (hQ _ hv2 hm4)
set_option maxRecDepth 100000 in
set_option maxHeartbeats 4000000 in
theorem t_PG_wire_1_3_out (G : GX) (hNT : G.1.stackTraces = false) (v : Nat → Int32) (i : Nat) (b_i : i < 2147483648) (k : Nat) (e40 : v 40 = nI k) (hk : k ≤ i ∧ k ≤ 64) (hv : okv v) : CSx G mt_PG_wire [.ref 61, .int (nI 1), .int (nI 3), .int (nI i)] v (fun _ v' => okv v' ∧ mdf [] v v') := by
  refine CSx.of hNT (by decide) (Nat.le_of_ble_eq_true rfl) ?_
  generalize hQe : (fun (_ : Option Value) (v' : Nat → Int32) => okv v' ∧ mdf [] v v') = Q
  have hQ : ∀ u, okv u → mdf [] v u → Q none u := by rw [← hQe]; exact fun u h1 h2 => ⟨h1, h2⟩
  clear hQe
  have hm : mdf [] v v := mdf.rf
  show SG ZX G mt_PG_wire 0 [(0, .ref 61), (1, .int (nI 1)), (2, .int (nI 3)), (3, .int (nI i))] [] v 0 0 Q
  refine SG.lift (fun _ _ k => G_aload_n (v := .ref 61) d_PG_wire_0 rfl (Or.inr ⟨_, rfl⟩) k) ?_
  refine SG.lift (fun _ _ k => G_iload_n d_PG_wire_1 rfl k) ?_
  refine SG.lift (fun _ _ k => G_iload_n d_PG_wire_2 rfl k) ?_
  refine SG.lift (fun _ _ k => G_iload_n d_PG_wire_3 rfl k) ?_
  refine H_virtual (as := [.int (nI 1), .int (nI 3), .int (nI i)]) (rest := []) (b := 61) d_PG_wire_4 rfl (jw_PG_isOnWire.jo (by decide)) lm_PG_154 ji_PG_isOnWire js_PG_isOnWire (w61 _) rfl rfl rfl (Nat.le_of_ble_eq_true rfl) (by decide) (by decide) (c_PG_isOnWire_1_3_out G v i (by omega) k e40 (by omega) hv) (fun r u1 hq => ?_)
  obtain ⟨hr, hv2, hm3, fe0_u1⟩ := hq
  rw [hr]
  clear hr r
  have hm4 := hm.go hm3 (by intro i hi; simp only [List.mem_cons, List.not_mem_nil, or_false] at hi ⊢ <;> omega)
  have e5 : u1 40 = nI k := (hm3 40 (by decide)).trans e40
  show SG ZX G mt_PG_wire 7 [(0, .ref 61), (1, .int (nI 1)), (2, .int (nI 3)), (3, .int (nI i))] [.int (nI 0)] u1 0 0 _
  refine H_if_neN d_PG_wire_7 rfl (by omega) (fun c => by first | exact absurd c (by omega) | exact c.elim | exact absurd c (by decide) | exact absurd (by assumption) c | exact absurd c (by assumption) | exact absurd c (Int32.not_le.mpr (by assumption))) (fun _ => ?_)
  exact H_throw rfl d_PG_wire_10 d_PG_wire_13 d_PG_wire_14 d_PG_wire_17 th_cl th_in (by decide) (Nat.le_of_ble_eq_true rfl) (by decide) (by decide) (hQ _ hv2 hm4)
set_option maxRecDepth 100000 in
set_option maxHeartbeats 4000000 in
theorem t_PG_key_1_0_neg (G : GX) (hNT : G.1.stackTraces = false) (v : Nat → Int32) (z : Int32) (hz_n : z < 0) (hv : okv v) : CSx G mt_PG_key [.ref 61, .int (nI 1), .int (nI 0), .int z] v (fun _ v' => okv v' ∧ mdf [] v v') := by
  refine CSx.of hNT (by decide) (Nat.le_of_ble_eq_true rfl) ?_
  generalize hQe : (fun (_ : Option Value) (v' : Nat → Int32) => okv v' ∧ mdf [] v v') = Q
  have hQ : ∀ u, okv u → mdf [] v u → Q none u := by rw [← hQe]; exact fun u h1 h2 => ⟨h1, h2⟩
  clear hQe
  have hm : mdf [] v v := mdf.rf
  show SG ZX G mt_PG_key 0 [(0, .ref 61), (1, .int (nI 1)), (2, .int (nI 0)), (3, .int z)] [] v 0 0 Q
  refine SG.lift (fun _ _ k => G_iload_n d_PG_key_0 rfl k) ?_
  refine H_static (as := [.int (nI 1)]) (rest := []) d_PG_key_1 rfl (jw_PG_isSession.jo (by decide)) lm_PG_133 jt_PG_isSession rfl (Nat.le_of_ble_eq_true rfl) (by decide) (by decide) (c_PG_isSession G v 1 (by omega)) (fun r v' hq => ?_)
  rw [hq.1, hq.2]
  clear hq r v'
  show SG ZX G mt_PG_key 4 [(0, .ref 61), (1, .int (nI 1)), (2, .int (nI 0)), (3, .int z)] [.int (nI 1)] v 0 0 _
  refine H_if_eqN d_PG_key_4 rfl (by omega) (fun c => by first | exact absurd c (by omega) | exact c.elim | exact absurd c (by decide) | exact absurd (by assumption) c | exact absurd c (by assumption) | exact absurd c (Int32.not_le.mpr (by assumption))) (fun _ => ?_)
  refine SG.lift (fun _ _ k => G_iload_n d_PG_key_7 rfl k) ?_
  refine H_if_ltN d_PG_key_8 rfl (by omega) (fun c => by first | exact absurd c (by omega) | exact c.elim | exact absurd c (by decide) | exact absurd (by assumption) c | exact absurd c (by assumption) | exact absurd c (Int32.not_le.mpr (by assumption))) (fun _ => ?_)
  refine SG.lift (fun _ _ k => G_iload_n d_PG_key_11 rfl k) ?_
  refine SG.lift (fun _ _ k => G_iconst (v := nI 2) d_PG_key_12 (by decide) k) ?_
  refine H_icmp_gtN d_PG_key_13 rfl (by omega) (by omega) (fun c => by first | exact absurd c (by omega) | exact c.elim | exact absurd c (by decide) | exact absurd (by assumption) c | exact absurd c (by assumption) | exact absurd c (Int32.not_le.mpr (by assumption))) (fun _ => ?_)
  refine SG.lift (fun _ _ k => G_aload_n (v := .ref 61) d_PG_key_16 rfl (Or.inr ⟨_, rfl⟩) k) ?_
  refine H_getfield d_PG_key_17 fg_PG_34 (w61 _) rfl ?_
  refine SG.lift (fun _ _ k => G_iload_n d_PG_key_20 rfl k) ?_
  refine H_aaload (C0 := "PasswordGate$Session") d_PG_key_21 (by decide) (w264 _) rfl (vp_in_nI (by omega) (by omega)) ?_
  refine H_getfield d_PG_key_22 fg_PG_162 (w291 _) rfl ?_
  refine SG.lift (fun _ _ k => G_iload_n d_PG_key_25 rfl k) ?_
  refine H_aaload (C0 := "PasswordGate$Bytes") d_PG_key_26 (by decide) (w293 _) rfl (vp_in_nI (by omega) (by omega)) ?_
  refine SG.lift (fun _ _ k => G_iload_n d_PG_key_27 rfl k) ?_
  refine H_virtual (as := [.int z]) (rest := []) (b := 311) d_PG_key_28 rfl (jw_By_has.jo (by decide)) lm_PG_119 ji_By_has js_By_has (w311 _) rfl rfl rfl (Nat.le_of_ble_eq_true rfl) (by decide) (by decide) (c_By_has_neg G v 311 312 64 41 ⟨w311, a312, by decide, u311_1, by decide, by decide⟩ z hz_n hv) (fun r u1 hq => ?_)
  obtain ⟨hr, hv2, hm3⟩ := hq
  rw [hr]
  clear hr r
  have hm4 := hm.go hm3 (by intro i hi; simp only [List.mem_cons, List.not_mem_nil, or_false] at hi ⊢ <;> omega)
  show SG ZX G mt_PG_key 31 [(0, .ref 61), (1, .int (nI 1)), (2, .int (nI 0)), (3, .int z)] [.int (nI 0)] u1 0 0 _
  refine H_if_neN d_PG_key_31 rfl (by omega) (fun c => by first | exact absurd c (by omega) | exact c.elim | exact absurd c (by decide) | exact absurd (by assumption) c | exact absurd c (by assumption) | exact absurd c (Int32.not_le.mpr (by assumption))) (fun _ => ?_)
  exact H_throw rfl d_PG_key_34 d_PG_key_37 d_PG_key_38 d_PG_key_41 th_cl th_in (by decide) (Nat.le_of_ble_eq_true rfl) (by decide) (by decide) (hQ _ hv2 hm4)
set_option maxRecDepth 100000 in
set_option maxHeartbeats 4000000 in
theorem t_PG_key_1_0_out (G : GX) (hNT : G.1.stackTraces = false) (v : Nat → Int32) (i : Nat) (b_i : i < 2147483648) (k : Nat) (e41 : v 41 = nI k) (hk : k ≤ i ∧ k ≤ 64) (hv : okv v) : CSx G mt_PG_key [.ref 61, .int (nI 1), .int (nI 0), .int (nI i)] v (fun _ v' => okv v' ∧ mdf [] v v') := by
  refine CSx.of hNT (by decide) (Nat.le_of_ble_eq_true rfl) ?_
  generalize hQe : (fun (_ : Option Value) (v' : Nat → Int32) => okv v' ∧ mdf [] v v') = Q
  have hQ : ∀ u, okv u → mdf [] v u → Q none u := by rw [← hQe]; exact fun u h1 h2 => ⟨h1, h2⟩
  clear hQe
  have hm : mdf [] v v := mdf.rf
  show SG ZX G mt_PG_key 0 [(0, .ref 61), (1, .int (nI 1)), (2, .int (nI 0)), (3, .int (nI i))] [] v 0 0 Q
  refine SG.lift (fun _ _ k => G_iload_n d_PG_key_0 rfl k) ?_
  refine H_static (as := [.int (nI 1)]) (rest := []) d_PG_key_1 rfl (jw_PG_isSession.jo (by decide)) lm_PG_133 jt_PG_isSession rfl (Nat.le_of_ble_eq_true rfl) (by decide) (by decide) (c_PG_isSession G v 1 (by omega)) (fun r v' hq => ?_)
  rw [hq.1, hq.2]
  clear hq r v'
  show SG ZX G mt_PG_key 4 [(0, .ref 61), (1, .int (nI 1)), (2, .int (nI 0)), (3, .int (nI i))] [.int (nI 1)] v 0 0 _
  refine H_if_eqN d_PG_key_4 rfl (by omega) (fun c => by first | exact absurd c (by omega) | exact c.elim | exact absurd c (by decide) | exact absurd (by assumption) c | exact absurd c (by assumption) | exact absurd c (Int32.not_le.mpr (by assumption))) (fun _ => ?_)
  refine SG.lift (fun _ _ k => G_iload_n d_PG_key_7 rfl k) ?_
  refine H_if_ltN d_PG_key_8 rfl (by omega) (fun c => by first | exact absurd c (by omega) | exact c.elim | exact absurd c (by decide) | exact absurd (by assumption) c | exact absurd c (by assumption) | exact absurd c (Int32.not_le.mpr (by assumption))) (fun _ => ?_)
  refine SG.lift (fun _ _ k => G_iload_n d_PG_key_11 rfl k) ?_
  refine SG.lift (fun _ _ k => G_iconst (v := nI 2) d_PG_key_12 (by decide) k) ?_
  refine H_icmp_gtN d_PG_key_13 rfl (by omega) (by omega) (fun c => by first | exact absurd c (by omega) | exact c.elim | exact absurd c (by decide) | exact absurd (by assumption) c | exact absurd c (by assumption) | exact absurd c (Int32.not_le.mpr (by assumption))) (fun _ => ?_)
  refine SG.lift (fun _ _ k => G_aload_n (v := .ref 61) d_PG_key_16 rfl (Or.inr ⟨_, rfl⟩) k) ?_
  refine H_getfield d_PG_key_17 fg_PG_34 (w61 _) rfl ?_
  refine SG.lift (fun _ _ k => G_iload_n d_PG_key_20 rfl k) ?_
  refine H_aaload (C0 := "PasswordGate$Session") d_PG_key_21 (by decide) (w264 _) rfl (vp_in_nI (by omega) (by omega)) ?_
  refine H_getfield d_PG_key_22 fg_PG_162 (w291 _) rfl ?_
  refine SG.lift (fun _ _ k => G_iload_n d_PG_key_25 rfl k) ?_
  refine H_aaload (C0 := "PasswordGate$Bytes") d_PG_key_26 (by decide) (w293 _) rfl (vp_in_nI (by omega) (by omega)) ?_
  refine SG.lift (fun _ _ k => G_iload_n d_PG_key_27 rfl k) ?_
  refine H_virtual (as := [.int (nI i)]) (rest := []) (b := 311) d_PG_key_28 rfl (jw_By_has.jo (by decide)) lm_PG_119 ji_By_has js_By_has (w311 _) rfl rfl rfl (Nat.le_of_ble_eq_true rfl) (by decide) (by decide) (c_By_has_out G v 311 312 64 41 ⟨w311, a312, by decide, u311_1, by decide, by decide⟩ i (by omega) k e41 (by omega) hv) (fun r u1 hq => ?_)
  obtain ⟨hr, hv2, hm3, fe0_u1⟩ := hq
  rw [hr]
  clear hr r
  have hm4 := hm.go hm3 (by intro i hi; simp only [List.mem_cons, List.not_mem_nil, or_false] at hi ⊢ <;> omega)
  have e5 : u1 41 = nI k := (hm3 41 (by decide)).trans e41
  show SG ZX G mt_PG_key 31 [(0, .ref 61), (1, .int (nI 1)), (2, .int (nI 0)), (3, .int (nI i))] [.int (nI 0)] u1 0 0 _
  refine H_if_neN d_PG_key_31 rfl (by omega) (fun c => by first | exact absurd c (by omega) | exact c.elim | exact absurd c (by decide) | exact absurd (by assumption) c | exact absurd c (by assumption) | exact absurd c (Int32.not_le.mpr (by assumption))) (fun _ => ?_)
  exact H_throw rfl d_PG_key_34 d_PG_key_37 d_PG_key_38 d_PG_key_41 th_cl th_in (by decide) (Nat.le_of_ble_eq_true rfl) (by decide) (by decide) (hQ _ hv2 hm4)
set_option maxRecDepth 100000 in
set_option maxHeartbeats 4000000 in
theorem t_PG_key_1_1_neg (G : GX) (hNT : G.1.stackTraces = false) (v : Nat → Int32) (z : Int32) (hz_n : z < 0) (hv : okv v) : CSx G mt_PG_key [.ref 61, .int (nI 1), .int (nI 1), .int z] v (fun _ v' => okv v' ∧ mdf [] v v') := by
  refine CSx.of hNT (by decide) (Nat.le_of_ble_eq_true rfl) ?_
  generalize hQe : (fun (_ : Option Value) (v' : Nat → Int32) => okv v' ∧ mdf [] v v') = Q
  have hQ : ∀ u, okv u → mdf [] v u → Q none u := by rw [← hQe]; exact fun u h1 h2 => ⟨h1, h2⟩
  clear hQe
  have hm : mdf [] v v := mdf.rf
  show SG ZX G mt_PG_key 0 [(0, .ref 61), (1, .int (nI 1)), (2, .int (nI 1)), (3, .int z)] [] v 0 0 Q
  refine SG.lift (fun _ _ k => G_iload_n d_PG_key_0 rfl k) ?_
  refine H_static (as := [.int (nI 1)]) (rest := []) d_PG_key_1 rfl (jw_PG_isSession.jo (by decide)) lm_PG_133 jt_PG_isSession rfl (Nat.le_of_ble_eq_true rfl) (by decide) (by decide) (c_PG_isSession G v 1 (by omega)) (fun r v' hq => ?_)
  rw [hq.1, hq.2]
  clear hq r v'
  show SG ZX G mt_PG_key 4 [(0, .ref 61), (1, .int (nI 1)), (2, .int (nI 1)), (3, .int z)] [.int (nI 1)] v 0 0 _
  refine H_if_eqN d_PG_key_4 rfl (by omega) (fun c => by first | exact absurd c (by omega) | exact c.elim | exact absurd c (by decide) | exact absurd (by assumption) c | exact absurd c (by assumption) | exact absurd c (Int32.not_le.mpr (by assumption))) (fun _ => ?_)
  refine SG.lift (fun _ _ k => G_iload_n d_PG_key_7 rfl k) ?_
  refine H_if_ltN d_PG_key_8 rfl (by omega) (fun c => by first | exact absurd c (by omega) | exact c.elim | exact absurd c (by decide) | exact absurd (by assumption) c | exact absurd c (by assumption) | exact absurd c (Int32.not_le.mpr (by assumption))) (fun _ => ?_)
  refine SG.lift (fun _ _ k => G_iload_n d_PG_key_11 rfl k) ?_
  refine SG.lift (fun _ _ k => G_iconst (v := nI 2) d_PG_key_12 (by decide) k) ?_
  refine H_icmp_gtN d_PG_key_13 rfl (by omega) (by omega) (fun c => by first | exact absurd c (by omega) | exact c.elim | exact absurd c (by decide) | exact absurd (by assumption) c | exact absurd c (by assumption) | exact absurd c (Int32.not_le.mpr (by assumption))) (fun _ => ?_)
  refine SG.lift (fun _ _ k => G_aload_n (v := .ref 61) d_PG_key_16 rfl (Or.inr ⟨_, rfl⟩) k) ?_
  refine H_getfield d_PG_key_17 fg_PG_34 (w61 _) rfl ?_
  refine SG.lift (fun _ _ k => G_iload_n d_PG_key_20 rfl k) ?_
  refine H_aaload (C0 := "PasswordGate$Session") d_PG_key_21 (by decide) (w264 _) rfl (vp_in_nI (by omega) (by omega)) ?_
  refine H_getfield d_PG_key_22 fg_PG_162 (w291 _) rfl ?_
  refine SG.lift (fun _ _ k => G_iload_n d_PG_key_25 rfl k) ?_
  refine H_aaload (C0 := "PasswordGate$Bytes") d_PG_key_26 (by decide) (w293 _) rfl (vp_in_nI (by omega) (by omega)) ?_
  refine SG.lift (fun _ _ k => G_iload_n d_PG_key_27 rfl k) ?_
  refine H_virtual (as := [.int z]) (rest := []) (b := 313) d_PG_key_28 rfl (jw_By_has.jo (by decide)) lm_PG_119 ji_By_has js_By_has (w313 _) rfl rfl rfl (Nat.le_of_ble_eq_true rfl) (by decide) (by decide) (c_By_has_neg G v 313 314 64 42 ⟨w313, a314, by decide, u313_1, by decide, by decide⟩ z hz_n hv) (fun r u1 hq => ?_)
  obtain ⟨hr, hv2, hm3⟩ := hq
  rw [hr]
  clear hr r
  have hm4 := hm.go hm3 (by intro i hi; simp only [List.mem_cons, List.not_mem_nil, or_false] at hi ⊢ <;> omega)
  show SG ZX G mt_PG_key 31 [(0, .ref 61), (1, .int (nI 1)), (2, .int (nI 1)), (3, .int z)] [.int (nI 0)] u1 0 0 _
  refine H_if_neN d_PG_key_31 rfl (by omega) (fun c => by first | exact absurd c (by omega) | exact c.elim | exact absurd c (by decide) | exact absurd (by assumption) c | exact absurd c (by assumption) | exact absurd c (Int32.not_le.mpr (by assumption))) (fun _ => ?_)
  exact H_throw rfl d_PG_key_34 d_PG_key_37 d_PG_key_38 d_PG_key_41 th_cl th_in (by decide) (Nat.le_of_ble_eq_true rfl) (by decide) (by decide) (hQ _ hv2 hm4)
set_option maxRecDepth 100000 in
set_option maxHeartbeats 4000000 in
theorem t_PG_key_1_1_out (G : GX) (hNT : G.1.stackTraces = false) (v : Nat → Int32) (i : Nat) (b_i : i < 2147483648) (k : Nat) (e42 : v 42 = nI k) (hk : k ≤ i ∧ k ≤ 64) (hv : okv v) : CSx G mt_PG_key [.ref 61, .int (nI 1), .int (nI 1), .int (nI i)] v (fun _ v' => okv v' ∧ mdf [] v v') := by
  refine CSx.of hNT (by decide) (Nat.le_of_ble_eq_true rfl) ?_
  generalize hQe : (fun (_ : Option Value) (v' : Nat → Int32) => okv v' ∧ mdf [] v v') = Q
  have hQ : ∀ u, okv u → mdf [] v u → Q none u := by rw [← hQe]; exact fun u h1 h2 => ⟨h1, h2⟩
  clear hQe
  have hm : mdf [] v v := mdf.rf
  show SG ZX G mt_PG_key 0 [(0, .ref 61), (1, .int (nI 1)), (2, .int (nI 1)), (3, .int (nI i))] [] v 0 0 Q
  refine SG.lift (fun _ _ k => G_iload_n d_PG_key_0 rfl k) ?_
  refine H_static (as := [.int (nI 1)]) (rest := []) d_PG_key_1 rfl (jw_PG_isSession.jo (by decide)) lm_PG_133 jt_PG_isSession rfl (Nat.le_of_ble_eq_true rfl) (by decide) (by decide) (c_PG_isSession G v 1 (by omega)) (fun r v' hq => ?_)
  rw [hq.1, hq.2]
  clear hq r v'
  show SG ZX G mt_PG_key 4 [(0, .ref 61), (1, .int (nI 1)), (2, .int (nI 1)), (3, .int (nI i))] [.int (nI 1)] v 0 0 _
  refine H_if_eqN d_PG_key_4 rfl (by omega) (fun c => by first | exact absurd c (by omega) | exact c.elim | exact absurd c (by decide) | exact absurd (by assumption) c | exact absurd c (by assumption) | exact absurd c (Int32.not_le.mpr (by assumption))) (fun _ => ?_)
  refine SG.lift (fun _ _ k => G_iload_n d_PG_key_7 rfl k) ?_
  refine H_if_ltN d_PG_key_8 rfl (by omega) (fun c => by first | exact absurd c (by omega) | exact c.elim | exact absurd c (by decide) | exact absurd (by assumption) c | exact absurd c (by assumption) | exact absurd c (Int32.not_le.mpr (by assumption))) (fun _ => ?_)
  refine SG.lift (fun _ _ k => G_iload_n d_PG_key_11 rfl k) ?_
  refine SG.lift (fun _ _ k => G_iconst (v := nI 2) d_PG_key_12 (by decide) k) ?_
  refine H_icmp_gtN d_PG_key_13 rfl (by omega) (by omega) (fun c => by first | exact absurd c (by omega) | exact c.elim | exact absurd c (by decide) | exact absurd (by assumption) c | exact absurd c (by assumption) | exact absurd c (Int32.not_le.mpr (by assumption))) (fun _ => ?_)
  refine SG.lift (fun _ _ k => G_aload_n (v := .ref 61) d_PG_key_16 rfl (Or.inr ⟨_, rfl⟩) k) ?_
  refine H_getfield d_PG_key_17 fg_PG_34 (w61 _) rfl ?_
  refine SG.lift (fun _ _ k => G_iload_n d_PG_key_20 rfl k) ?_
  refine H_aaload (C0 := "PasswordGate$Session") d_PG_key_21 (by decide) (w264 _) rfl (vp_in_nI (by omega) (by omega)) ?_
  refine H_getfield d_PG_key_22 fg_PG_162 (w291 _) rfl ?_
  refine SG.lift (fun _ _ k => G_iload_n d_PG_key_25 rfl k) ?_
  refine H_aaload (C0 := "PasswordGate$Bytes") d_PG_key_26 (by decide) (w293 _) rfl (vp_in_nI (by omega) (by omega)) ?_
  refine SG.lift (fun _ _ k => G_iload_n d_PG_key_27 rfl k) ?_
  refine H_virtual (as := [.int (nI i)]) (rest := []) (b := 313) d_PG_key_28 rfl (jw_By_has.jo (by decide)) lm_PG_119 ji_By_has js_By_has (w313 _) rfl rfl rfl (Nat.le_of_ble_eq_true rfl) (by decide) (by decide) (c_By_has_out G v 313 314 64 42 ⟨w313, a314, by decide, u313_1, by decide, by decide⟩ i (by omega) k e42 (by omega) hv) (fun r u1 hq => ?_)
  obtain ⟨hr, hv2, hm3, fe0_u1⟩ := hq
  rw [hr]
  clear hr r
  have hm4 := hm.go hm3 (by intro i hi; simp only [List.mem_cons, List.not_mem_nil, or_false] at hi ⊢ <;> omega)
  have e5 : u1 42 = nI k := (hm3 42 (by decide)).trans e42
  show SG ZX G mt_PG_key 31 [(0, .ref 61), (1, .int (nI 1)), (2, .int (nI 1)), (3, .int (nI i))] [.int (nI 0)] u1 0 0 _
  refine H_if_neN d_PG_key_31 rfl (by omega) (fun c => by first | exact absurd c (by omega) | exact c.elim | exact absurd c (by decide) | exact absurd (by assumption) c | exact absurd c (by assumption) | exact absurd c (Int32.not_le.mpr (by assumption))) (fun _ => ?_)
  exact H_throw rfl d_PG_key_34 d_PG_key_37 d_PG_key_38 d_PG_key_41 th_cl th_in (by decide) (Nat.le_of_ble_eq_true rfl) (by decide) (by decide) (hQ _ hv2 hm4)
set_option maxRecDepth 100000 in
set_option maxHeartbeats 4000000 in
theorem t_PG_key_1_2_neg (G : GX) (hNT : G.1.stackTraces = false) (v : Nat → Int32) (z : Int32) (hz_n : z < 0) (hv : okv v) : CSx G mt_PG_key [.ref 61, .int (nI 1), .int (nI 2), .int z] v (fun _ v' => okv v' ∧ mdf [] v v') := by
  refine CSx.of hNT (by decide) (Nat.le_of_ble_eq_true rfl) ?_
  generalize hQe : (fun (_ : Option Value) (v' : Nat → Int32) => okv v' ∧ mdf [] v v') = Q
  have hQ : ∀ u, okv u → mdf [] v u → Q none u := by rw [← hQe]; exact fun u h1 h2 => ⟨h1, h2⟩
  clear hQe
  have hm : mdf [] v v := mdf.rf
  show SG ZX G mt_PG_key 0 [(0, .ref 61), (1, .int (nI 1)), (2, .int (nI 2)), (3, .int z)] [] v 0 0 Q
  refine SG.lift (fun _ _ k => G_iload_n d_PG_key_0 rfl k) ?_
  refine H_static (as := [.int (nI 1)]) (rest := []) d_PG_key_1 rfl (jw_PG_isSession.jo (by decide)) lm_PG_133 jt_PG_isSession rfl (Nat.le_of_ble_eq_true rfl) (by decide) (by decide) (c_PG_isSession G v 1 (by omega)) (fun r v' hq => ?_)
  rw [hq.1, hq.2]
  clear hq r v'
  show SG ZX G mt_PG_key 4 [(0, .ref 61), (1, .int (nI 1)), (2, .int (nI 2)), (3, .int z)] [.int (nI 1)] v 0 0 _
  refine H_if_eqN d_PG_key_4 rfl (by omega) (fun c => by first | exact absurd c (by omega) | exact c.elim | exact absurd c (by decide) | exact absurd (by assumption) c | exact absurd c (by assumption) | exact absurd c (Int32.not_le.mpr (by assumption))) (fun _ => ?_)
  refine SG.lift (fun _ _ k => G_iload_n d_PG_key_7 rfl k) ?_
  refine H_if_ltN d_PG_key_8 rfl (by omega) (fun c => by first | exact absurd c (by omega) | exact c.elim | exact absurd c (by decide) | exact absurd (by assumption) c | exact absurd c (by assumption) | exact absurd c (Int32.not_le.mpr (by assumption))) (fun _ => ?_)
  refine SG.lift (fun _ _ k => G_iload_n d_PG_key_11 rfl k) ?_
  refine SG.lift (fun _ _ k => G_iconst (v := nI 2) d_PG_key_12 (by decide) k) ?_
  refine H_icmp_gtN d_PG_key_13 rfl (by omega) (by omega) (fun c => by first | exact absurd c (by omega) | exact c.elim | exact absurd c (by decide) | exact absurd (by assumption) c | exact absurd c (by assumption) | exact absurd c (Int32.not_le.mpr (by assumption))) (fun _ => ?_)
  refine SG.lift (fun _ _ k => G_aload_n (v := .ref 61) d_PG_key_16 rfl (Or.inr ⟨_, rfl⟩) k) ?_
  refine H_getfield d_PG_key_17 fg_PG_34 (w61 _) rfl ?_
  refine SG.lift (fun _ _ k => G_iload_n d_PG_key_20 rfl k) ?_
  refine H_aaload (C0 := "PasswordGate$Session") d_PG_key_21 (by decide) (w264 _) rfl (vp_in_nI (by omega) (by omega)) ?_
  refine H_getfield d_PG_key_22 fg_PG_162 (w291 _) rfl ?_
  refine SG.lift (fun _ _ k => G_iload_n d_PG_key_25 rfl k) ?_
  refine H_aaload (C0 := "PasswordGate$Bytes") d_PG_key_26 (by decide) (w293 _) rfl (vp_in_nI (by omega) (by omega)) ?_
  refine SG.lift (fun _ _ k => G_iload_n d_PG_key_27 rfl k) ?_
  refine H_virtual (as := [.int z]) (rest := []) (b := 315) d_PG_key_28 rfl (jw_By_has.jo (by decide)) lm_PG_119 ji_By_has js_By_has (w315 _) rfl rfl rfl (Nat.le_of_ble_eq_true rfl) (by decide) (by decide) (c_By_has_neg G v 315 316 64 43 ⟨w315, a316, by decide, u315_1, by decide, by decide⟩ z hz_n hv) (fun r u1 hq => ?_)
  obtain ⟨hr, hv2, hm3⟩ := hq
  rw [hr]
  clear hr r
  have hm4 := hm.go hm3 (by intro i hi; simp only [List.mem_cons, List.not_mem_nil, or_false] at hi ⊢ <;> omega)
  show SG ZX G mt_PG_key 31 [(0, .ref 61), (1, .int (nI 1)), (2, .int (nI 2)), (3, .int z)] [.int (nI 0)] u1 0 0 _
  refine H_if_neN d_PG_key_31 rfl (by omega) (fun c => by first | exact absurd c (by omega) | exact c.elim | exact absurd c (by decide) | exact absurd (by assumption) c | exact absurd c (by assumption) | exact absurd c (Int32.not_le.mpr (by assumption))) (fun _ => ?_)
  exact H_throw rfl d_PG_key_34 d_PG_key_37 d_PG_key_38 d_PG_key_41 th_cl th_in (by decide) (Nat.le_of_ble_eq_true rfl) (by decide) (by decide) (hQ _ hv2 hm4)
set_option maxRecDepth 100000 in
set_option maxHeartbeats 4000000 in
theorem t_PG_key_1_2_out (G : GX) (hNT : G.1.stackTraces = false) (v : Nat → Int32) (i : Nat) (b_i : i < 2147483648) (k : Nat) (e43 : v 43 = nI k) (hk : k ≤ i ∧ k ≤ 64) (hv : okv v) : CSx G mt_PG_key [.ref 61, .int (nI 1), .int (nI 2), .int (nI i)] v (fun _ v' => okv v' ∧ mdf [] v v') := by
  refine CSx.of hNT (by decide) (Nat.le_of_ble_eq_true rfl) ?_
  generalize hQe : (fun (_ : Option Value) (v' : Nat → Int32) => okv v' ∧ mdf [] v v') = Q
  have hQ : ∀ u, okv u → mdf [] v u → Q none u := by rw [← hQe]; exact fun u h1 h2 => ⟨h1, h2⟩
  clear hQe
  have hm : mdf [] v v := mdf.rf
  show SG ZX G mt_PG_key 0 [(0, .ref 61), (1, .int (nI 1)), (2, .int (nI 2)), (3, .int (nI i))] [] v 0 0 Q
  refine SG.lift (fun _ _ k => G_iload_n d_PG_key_0 rfl k) ?_
  refine H_static (as := [.int (nI 1)]) (rest := []) d_PG_key_1 rfl (jw_PG_isSession.jo (by decide)) lm_PG_133 jt_PG_isSession rfl (Nat.le_of_ble_eq_true rfl) (by decide) (by decide) (c_PG_isSession G v 1 (by omega)) (fun r v' hq => ?_)
  rw [hq.1, hq.2]
  clear hq r v'
  show SG ZX G mt_PG_key 4 [(0, .ref 61), (1, .int (nI 1)), (2, .int (nI 2)), (3, .int (nI i))] [.int (nI 1)] v 0 0 _
  refine H_if_eqN d_PG_key_4 rfl (by omega) (fun c => by first | exact absurd c (by omega) | exact c.elim | exact absurd c (by decide) | exact absurd (by assumption) c | exact absurd c (by assumption) | exact absurd c (Int32.not_le.mpr (by assumption))) (fun _ => ?_)
  refine SG.lift (fun _ _ k => G_iload_n d_PG_key_7 rfl k) ?_
  refine H_if_ltN d_PG_key_8 rfl (by omega) (fun c => by first | exact absurd c (by omega) | exact c.elim | exact absurd c (by decide) | exact absurd (by assumption) c | exact absurd c (by assumption) | exact absurd c (Int32.not_le.mpr (by assumption))) (fun _ => ?_)
  refine SG.lift (fun _ _ k => G_iload_n d_PG_key_11 rfl k) ?_
  refine SG.lift (fun _ _ k => G_iconst (v := nI 2) d_PG_key_12 (by decide) k) ?_
  refine H_icmp_gtN d_PG_key_13 rfl (by omega) (by omega) (fun c => by first | exact absurd c (by omega) | exact c.elim | exact absurd c (by decide) | exact absurd (by assumption) c | exact absurd c (by assumption) | exact absurd c (Int32.not_le.mpr (by assumption))) (fun _ => ?_)
  refine SG.lift (fun _ _ k => G_aload_n (v := .ref 61) d_PG_key_16 rfl (Or.inr ⟨_, rfl⟩) k) ?_
  refine H_getfield d_PG_key_17 fg_PG_34 (w61 _) rfl ?_
  refine SG.lift (fun _ _ k => G_iload_n d_PG_key_20 rfl k) ?_
  refine H_aaload (C0 := "PasswordGate$Session") d_PG_key_21 (by decide) (w264 _) rfl (vp_in_nI (by omega) (by omega)) ?_
  refine H_getfield d_PG_key_22 fg_PG_162 (w291 _) rfl ?_
  refine SG.lift (fun _ _ k => G_iload_n d_PG_key_25 rfl k) ?_
  refine H_aaload (C0 := "PasswordGate$Bytes") d_PG_key_26 (by decide) (w293 _) rfl (vp_in_nI (by omega) (by omega)) ?_
  refine SG.lift (fun _ _ k => G_iload_n d_PG_key_27 rfl k) ?_
  refine H_virtual (as := [.int (nI i)]) (rest := []) (b := 315) d_PG_key_28 rfl (jw_By_has.jo (by decide)) lm_PG_119 ji_By_has js_By_has (w315 _) rfl rfl rfl (Nat.le_of_ble_eq_true rfl) (by decide) (by decide) (c_By_has_out G v 315 316 64 43 ⟨w315, a316, by decide, u315_1, by decide, by decide⟩ i (by omega) k e43 (by omega) hv) (fun r u1 hq => ?_)
  obtain ⟨hr, hv2, hm3, fe0_u1⟩ := hq
  rw [hr]
  clear hr r
  have hm4 := hm.go hm3 (by intro i hi; simp only [List.mem_cons, List.not_mem_nil, or_false] at hi ⊢ <;> omega)
  have e5 : u1 43 = nI k := (hm3 43 (by decide)).trans e43
  show SG ZX G mt_PG_key 31 [(0, .ref 61), (1, .int (nI 1)), (2, .int (nI 2)), (3, .int (nI i))] [.int (nI 0)] u1 0 0 _
  refine H_if_neN d_PG_key_31 rfl (by omega) (fun c => by first | exact absurd c (by omega) | exact c.elim | exact absurd c (by decide) | exact absurd (by assumption) c | exact absurd c (by assumption) | exact absurd c (Int32.not_le.mpr (by assumption))) (fun _ => ?_)
  exact H_throw rfl d_PG_key_34 d_PG_key_37 d_PG_key_38 d_PG_key_41 th_cl th_in (by decide) (Nat.le_of_ble_eq_true rfl) (by decide) (by decide) (hQ _ hv2 hm4)
set_option maxRecDepth 100000 in
set_option maxHeartbeats 4000000 in
theorem t_PG_wire_2_mlt (G : GX) (hNT : G.1.stackTraces = false) (v : Nat → Int32) (y : Int32) (z : Int32) (hy_m : y < nI 1) (hv : okv v) : CSx G mt_PG_wire [.ref 61, .int (nI 2), .int y, .int z] v (fun _ v' => okv v' ∧ mdf [] v v') := by
  refine CSx.of hNT (by decide) (Nat.le_of_ble_eq_true rfl) ?_
  generalize hQe : (fun (_ : Option Value) (v' : Nat → Int32) => okv v' ∧ mdf [] v v') = Q
  have hQ : ∀ u, okv u → mdf [] v u → Q none u := by rw [← hQe]; exact fun u h1 h2 => ⟨h1, h2⟩
  clear hQe
  have hm : mdf [] v v := mdf.rf
  show SG ZX G mt_PG_wire 0 [(0, .ref 61), (1, .int (nI 2)), (2, .int y), (3, .int z)] [] v 0 0 Q
  refine SG.lift (fun _ _ k => G_aload_n (v := .ref 61) d_PG_wire_0 rfl (Or.inr ⟨_, rfl⟩) k) ?_
  refine SG.lift (fun _ _ k => G_iload_n d_PG_wire_1 rfl k) ?_
  refine SG.lift (fun _ _ k => G_iload_n d_PG_wire_2 rfl k) ?_
  refine SG.lift (fun _ _ k => G_iload_n d_PG_wire_3 rfl k) ?_
  refine H_virtual (as := [.int (nI 2), .int y, .int z]) (rest := []) (b := 61) d_PG_wire_4 rfl (jw_PG_isOnWire.jo (by decide)) lm_PG_154 ji_PG_isOnWire js_PG_isOnWire (w61 _) rfl rfl rfl (Nat.le_of_ble_eq_true rfl) (by decide) (by decide) (c_PG_isOnWire_2_mlt G v y z hy_m hv) (fun r u1 hq => ?_)
  obtain ⟨hr, hv2, hm3⟩ := hq
  rw [hr]
  clear hr r
  have hm4 := hm.go hm3 (by intro i hi; simp only [List.mem_cons, List.not_mem_nil, or_false] at hi ⊢ <;> omega)
  show SG ZX G mt_PG_wire 7 [(0, .ref 61), (1, .int (nI 2)), (2, .int y), (3, .int z)] [.int (nI 0)] u1 0 0 _
  refine H_if_neN d_PG_wire_7 rfl (by omega) (fun c => by first | exact absurd c (by omega) | exact c.elim | exact absurd c (by decide) | exact absurd (by assumption) c | exact absurd c (by assumption) | exact absurd c (Int32.not_le.mpr (by assumption))) (fun _ => ?_)
  exact H_throw rfl d_PG_wire_10 d_PG_wire_13 d_PG_wire_14 d_PG_wire_17 th_cl th_in (by decide) (Nat.le_of_ble_eq_true rfl) (by decide) (by decide) (hQ _ hv2 hm4)
set_option maxRecDepth 100000 in
set_option maxHeartbeats 4000000 in
theorem t_PG_wire_2_mgt (G : GX) (hNT : G.1.stackTraces = false) (v : Nat → Int32) (y : Int32) (z : Int32) (h0_m : ¬ y < nI 1) (hy_m : nI 3 < y) (hv : okv v) : CSx G mt_PG_wire [.ref 61, .int (nI 2), .int y, .int z] v (fun _ v' => okv v' ∧ mdf [] v v') := by
  refine CSx.of hNT (by decide) (Nat.le_of_ble_eq_true rfl) ?_
  generalize hQe : (fun (_ : Option Value) (v' : Nat → Int32) => okv v' ∧ mdf [] v v') = Q
  have hQ : ∀ u, okv u → mdf [] v u → Q none u := by rw [← hQe]; exact fun u h1 h2 => ⟨h1, h2⟩
  clear hQe
  have hm : mdf [] v v := mdf.rf
  show SG ZX G mt_PG_wire 0 [(0, .ref 61), (1, .int (nI 2)), (2, .int y), (3, .int z)] [] v 0 0 Q
  refine SG.lift (fun _ _ k => G_aload_n (v := .ref 61) d_PG_wire_0 rfl (Or.inr ⟨_, rfl⟩) k) ?_
  refine SG.lift (fun _ _ k => G_iload_n d_PG_wire_1 rfl k) ?_
  refine SG.lift (fun _ _ k => G_iload_n d_PG_wire_2 rfl k) ?_
  refine SG.lift (fun _ _ k => G_iload_n d_PG_wire_3 rfl k) ?_
  refine H_virtual (as := [.int (nI 2), .int y, .int z]) (rest := []) (b := 61) d_PG_wire_4 rfl (jw_PG_isOnWire.jo (by decide)) lm_PG_154 ji_PG_isOnWire js_PG_isOnWire (w61 _) rfl rfl rfl (Nat.le_of_ble_eq_true rfl) (by decide) (by decide) (c_PG_isOnWire_2_mgt G v y z h0_m hy_m hv) (fun r u1 hq => ?_)
  obtain ⟨hr, hv2, hm3⟩ := hq
  rw [hr]
  clear hr r
  have hm4 := hm.go hm3 (by intro i hi; simp only [List.mem_cons, List.not_mem_nil, or_false] at hi ⊢ <;> omega)
  show SG ZX G mt_PG_wire 7 [(0, .ref 61), (1, .int (nI 2)), (2, .int y), (3, .int z)] [.int (nI 0)] u1 0 0 _
  refine H_if_neN d_PG_wire_7 rfl (by omega) (fun c => by first | exact absurd c (by omega) | exact c.elim | exact absurd c (by decide) | exact absurd (by assumption) c | exact absurd c (by assumption) | exact absurd c (Int32.not_le.mpr (by assumption))) (fun _ => ?_)
  exact H_throw rfl d_PG_wire_10 d_PG_wire_13 d_PG_wire_14 d_PG_wire_17 th_cl th_in (by decide) (Nat.le_of_ble_eq_true rfl) (by decide) (by decide) (hQ _ hv2 hm4)
set_option maxRecDepth 100000 in
set_option maxHeartbeats 4000000 in
theorem t_PG_key_2_lt (G : GX) (hNT : G.1.stackTraces = false) (v : Nat → Int32) (y : Int32) (z : Int32) (hy : y < 0) (hv : okv v) : CSx G mt_PG_key [.ref 61, .int (nI 2), .int y, .int z] v (fun _ v' => okv v' ∧ mdf [] v v') := by
  refine CSx.of hNT (by decide) (Nat.le_of_ble_eq_true rfl) ?_
  generalize hQe : (fun (_ : Option Value) (v' : Nat → Int32) => okv v' ∧ mdf [] v v') = Q
  have hQ : ∀ u, okv u → mdf [] v u → Q none u := by rw [← hQe]; exact fun u h1 h2 => ⟨h1, h2⟩
  clear hQe
  have hm : mdf [] v v := mdf.rf
  show SG ZX G mt_PG_key 0 [(0, .ref 61), (1, .int (nI 2)), (2, .int y), (3, .int z)] [] v 0 0 Q
  refine SG.lift (fun _ _ k => G_iload_n d_PG_key_0 rfl k) ?_
  refine H_static (as := [.int (nI 2)]) (rest := []) d_PG_key_1 rfl (jw_PG_isSession.jo (by decide)) lm_PG_133 jt_PG_isSession rfl (Nat.le_of_ble_eq_true rfl) (by decide) (by decide) (c_PG_isSession G v 2 (by omega)) (fun r v' hq => ?_)
  rw [hq.1, hq.2]
  clear hq r v'
  show SG ZX G mt_PG_key 4 [(0, .ref 61), (1, .int (nI 2)), (2, .int y), (3, .int z)] [.int (nI 1)] v 0 0 _
  refine H_if_eqN d_PG_key_4 rfl (by omega) (fun c => by first | exact absurd c (by omega) | exact c.elim | exact absurd c (by decide) | exact absurd (by assumption) c | exact absurd c (by assumption) | exact absurd c (Int32.not_le.mpr (by assumption))) (fun _ => ?_)
  refine SG.lift (fun _ _ k => G_iload_n d_PG_key_7 rfl k) ?_
  refine H_if_lt d_PG_key_8 rfl (fun _ => ?_) (fun c => by first | exact absurd c (by omega) | exact c.elim | exact absurd c (by decide) | exact absurd (by assumption) c | exact absurd c (by assumption) | exact absurd c (Int32.not_le.mpr (by assumption)))
  exact H_throw rfl d_PG_key_34 d_PG_key_37 d_PG_key_38 d_PG_key_41 th_cl th_in (by decide) (Nat.le_of_ble_eq_true rfl) (by decide) (by decide) (hQ _ hv hm)
set_option maxRecDepth 100000 in
set_option maxHeartbeats 4000000 in
theorem t_PG_key_2_gt (G : GX) (hNT : G.1.stackTraces = false) (v : Nat → Int32) (y : Int32) (z : Int32) (h0 : ¬ y < 0) (hy : nI 2 < y) (hv : okv v) : CSx G mt_PG_key [.ref 61, .int (nI 2), .int y, .int z] v (fun _ v' => okv v' ∧ mdf [] v v') := by
  refine CSx.of hNT (by decide) (Nat.le_of_ble_eq_true rfl) ?_
  generalize hQe : (fun (_ : Option Value) (v' : Nat → Int32) => okv v' ∧ mdf [] v v') = Q
  have hQ : ∀ u, okv u → mdf [] v u → Q none u := by rw [← hQe]; exact fun u h1 h2 => ⟨h1, h2⟩
  clear hQe
  have hm : mdf [] v v := mdf.rf
  show SG ZX G mt_PG_key 0 [(0, .ref 61), (1, .int (nI 2)), (2, .int y), (3, .int z)] [] v 0 0 Q
  refine SG.lift (fun _ _ k => G_iload_n d_PG_key_0 rfl k) ?_
  refine H_static (as := [.int (nI 2)]) (rest := []) d_PG_key_1 rfl (jw_PG_isSession.jo (by decide)) lm_PG_133 jt_PG_isSession rfl (Nat.le_of_ble_eq_true rfl) (by decide) (by decide) (c_PG_isSession G v 2 (by omega)) (fun r v' hq => ?_)
  rw [hq.1, hq.2]
  clear hq r v'
  show SG ZX G mt_PG_key 4 [(0, .ref 61), (1, .int (nI 2)), (2, .int y), (3, .int z)] [.int (nI 1)] v 0 0 _
  refine H_if_eqN d_PG_key_4 rfl (by omega) (fun c => by first | exact absurd c (by omega) | exact c.elim | exact absurd c (by decide) | exact absurd (by assumption) c | exact absurd c (by assumption) | exact absurd c (Int32.not_le.mpr (by assumption))) (fun _ => ?_)
  refine SG.lift (fun _ _ k => G_iload_n d_PG_key_7 rfl k) ?_
  refine H_if_lt d_PG_key_8 rfl (fun c => by first | exact absurd c (by omega) | exact c.elim | exact absurd c (by decide) | exact absurd (by assumption) c | exact absurd c (by assumption) | exact absurd c (Int32.not_le.mpr (by assumption))) (fun _ => ?_)
  refine SG.lift (fun _ _ k => G_iload_n d_PG_key_11 rfl k) ?_
  refine SG.lift (fun _ _ k => G_iconst (v := nI 2) d_PG_key_12 (by decide) k) ?_
  refine H_icmp_gt d_PG_key_13 rfl (fun _ => ?_) (fun c => by first | exact absurd c (by omega) | exact c.elim | exact absurd c (by decide) | exact absurd (by assumption) c | exact absurd c (by assumption) | exact absurd c (Int32.not_le.mpr (by assumption)))
  exact H_throw rfl d_PG_key_34 d_PG_key_37 d_PG_key_38 d_PG_key_41 th_cl th_in (by decide) (Nat.le_of_ble_eq_true rfl) (by decide) (by decide) (hQ _ hv hm)
set_option maxRecDepth 100000 in
set_option maxHeartbeats 4000000 in
theorem t_PG_wire_2_1_neg (G : GX) (hNT : G.1.stackTraces = false) (v : Nat → Int32) (z : Int32) (hz_n : z < 0) (hv : okv v) : CSx G mt_PG_wire [.ref 61, .int (nI 2), .int (nI 1), .int z] v (fun _ v' => okv v' ∧ mdf [] v v') := by
  refine CSx.of hNT (by decide) (Nat.le_of_ble_eq_true rfl) ?_
  generalize hQe : (fun (_ : Option Value) (v' : Nat → Int32) => okv v' ∧ mdf [] v v') = Q
  have hQ : ∀ u, okv u → mdf [] v u → Q none u := by rw [← hQe]; exact fun u h1 h2 => ⟨h1, h2⟩
  clear hQe
  have hm : mdf [] v v := mdf.rf
  show SG ZX G mt_PG_wire 0 [(0, .ref 61), (1, .int (nI 2)), (2, .int (nI 1)), (3, .int z)] [] v 0 0 Q
  refine SG.lift (fun _ _ k => G_aload_n (v := .ref 61) d_PG_wire_0 rfl (Or.inr ⟨_, rfl⟩) k) ?_
  refine SG.lift (fun _ _ k => G_iload_n d_PG_wire_1 rfl k) ?_
  refine SG.lift (fun _ _ k => G_iload_n d_PG_wire_2 rfl k) ?_
  refine SG.lift (fun _ _ k => G_iload_n d_PG_wire_3 rfl k) ?_
  refine H_virtual (as := [.int (nI 2), .int (nI 1), .int z]) (rest := []) (b := 61) d_PG_wire_4 rfl (jw_PG_isOnWire.jo (by decide)) lm_PG_154 ji_PG_isOnWire js_PG_isOnWire (w61 _) rfl rfl rfl (Nat.le_of_ble_eq_true rfl) (by decide) (by decide) (c_PG_isOnWire_2_1_neg G v z hz_n hv) (fun r u1 hq => ?_)
  obtain ⟨hr, hv2, hm3⟩ := hq
  rw [hr]
  clear hr r
  have hm4 := hm.go hm3 (by intro i hi; simp only [List.mem_cons, List.not_mem_nil, or_false] at hi ⊢ <;> omega)
  show SG ZX G mt_PG_wire 7 [(0, .ref 61), (1, .int (nI 2)), (2, .int (nI 1)), (3, .int z)] [.int (nI 0)] u1 0 0 _
  refine H_if_neN d_PG_wire_7 rfl (by omega) (fun c => by first | exact absurd c (by omega) | exact c.elim | exact absurd c (by decide) | exact absurd (by assumption) c | exact absurd c (by assumption) | exact absurd c (Int32.not_le.mpr (by assumption))) (fun _ => ?_)
  exact H_throw rfl d_PG_wire_10 d_PG_wire_13 d_PG_wire_14 d_PG_wire_17 th_cl th_in (by decide) (Nat.le_of_ble_eq_true rfl) (by decide) (by decide) (hQ _ hv2 hm4)
set_option maxRecDepth 100000 in
set_option maxHeartbeats 4000000 in
theorem t_PG_wire_2_1_out (G : GX) (hNT : G.1.stackTraces = false) (v : Nat → Int32) (i : Nat) (b_i : i < 2147483648) (k : Nat) (e48 : v 48 = nI k) (hk : k ≤ i ∧ k ≤ 96) (hv : okv v) : CSx G mt_PG_wire [.ref 61, .int (nI 2), .int (nI 1), .int (nI i)] v (fun _ v' => okv v' ∧ mdf [] v v') := by
  refine CSx.of hNT (by decide) (Nat.le_of_ble_eq_true rfl) ?_
  generalize hQe : (fun (_ : Option Value) (v' : Nat → Int32) => okv v' ∧ mdf [] v v') = Q
  have hQ : ∀ u, okv u → mdf [] v u → Q none u := by rw [← hQe]; exact fun u h1 h2 => ⟨h1, h2⟩
  clear hQe
  have hm : mdf [] v v := mdf.rf
  show SG ZX G mt_PG_wire 0 [(0, .ref 61), (1, .int (nI 2)), (2, .int (nI 1)), (3, .int (nI i))] [] v 0 0 Q
  refine SG.lift (fun _ _ k => G_aload_n (v := .ref 61) d_PG_wire_0 rfl (Or.inr ⟨_, rfl⟩) k) ?_
  refine SG.lift (fun _ _ k => G_iload_n d_PG_wire_1 rfl k) ?_
  refine SG.lift (fun _ _ k => G_iload_n d_PG_wire_2 rfl k) ?_
  refine SG.lift (fun _ _ k => G_iload_n d_PG_wire_3 rfl k) ?_
  refine H_virtual (as := [.int (nI 2), .int (nI 1), .int (nI i)]) (rest := []) (b := 61) d_PG_wire_4 rfl (jw_PG_isOnWire.jo (by decide)) lm_PG_154 ji_PG_isOnWire js_PG_isOnWire (w61 _) rfl rfl rfl (Nat.le_of_ble_eq_true rfl) (by decide) (by decide) (c_PG_isOnWire_2_1_out G v i (by omega) k e48 (by omega) hv) (fun r u1 hq => ?_)
  obtain ⟨hr, hv2, hm3, fe0_u1⟩ := hq
  rw [hr]
  clear hr r
  have hm4 := hm.go hm3 (by intro i hi; simp only [List.mem_cons, List.not_mem_nil, or_false] at hi ⊢ <;> omega)
  have e5 : u1 48 = nI k := (hm3 48 (by decide)).trans e48
  show SG ZX G mt_PG_wire 7 [(0, .ref 61), (1, .int (nI 2)), (2, .int (nI 1)), (3, .int (nI i))] [.int (nI 0)] u1 0 0 _
  refine H_if_neN d_PG_wire_7 rfl (by omega) (fun c => by first | exact absurd c (by omega) | exact c.elim | exact absurd c (by decide) | exact absurd (by assumption) c | exact absurd c (by assumption) | exact absurd c (Int32.not_le.mpr (by assumption))) (fun _ => ?_)
  exact H_throw rfl d_PG_wire_10 d_PG_wire_13 d_PG_wire_14 d_PG_wire_17 th_cl th_in (by decide) (Nat.le_of_ble_eq_true rfl) (by decide) (by decide) (hQ _ hv2 hm4)
set_option maxRecDepth 100000 in
set_option maxHeartbeats 4000000 in
theorem t_PG_wire_2_2_neg (G : GX) (hNT : G.1.stackTraces = false) (v : Nat → Int32) (z : Int32) (hz_n : z < 0) (hv : okv v) : CSx G mt_PG_wire [.ref 61, .int (nI 2), .int (nI 2), .int z] v (fun _ v' => okv v' ∧ mdf [] v v') := by
  refine CSx.of hNT (by decide) (Nat.le_of_ble_eq_true rfl) ?_
  generalize hQe : (fun (_ : Option Value) (v' : Nat → Int32) => okv v' ∧ mdf [] v v') = Q
  have hQ : ∀ u, okv u → mdf [] v u → Q none u := by rw [← hQe]; exact fun u h1 h2 => ⟨h1, h2⟩
  clear hQe
  have hm : mdf [] v v := mdf.rf
  show SG ZX G mt_PG_wire 0 [(0, .ref 61), (1, .int (nI 2)), (2, .int (nI 2)), (3, .int z)] [] v 0 0 Q
  refine SG.lift (fun _ _ k => G_aload_n (v := .ref 61) d_PG_wire_0 rfl (Or.inr ⟨_, rfl⟩) k) ?_
  refine SG.lift (fun _ _ k => G_iload_n d_PG_wire_1 rfl k) ?_
  refine SG.lift (fun _ _ k => G_iload_n d_PG_wire_2 rfl k) ?_
  refine SG.lift (fun _ _ k => G_iload_n d_PG_wire_3 rfl k) ?_
  refine H_virtual (as := [.int (nI 2), .int (nI 2), .int z]) (rest := []) (b := 61) d_PG_wire_4 rfl (jw_PG_isOnWire.jo (by decide)) lm_PG_154 ji_PG_isOnWire js_PG_isOnWire (w61 _) rfl rfl rfl (Nat.le_of_ble_eq_true rfl) (by decide) (by decide) (c_PG_isOnWire_2_2_neg G v z hz_n hv) (fun r u1 hq => ?_)
  obtain ⟨hr, hv2, hm3⟩ := hq
  rw [hr]
  clear hr r
  have hm4 := hm.go hm3 (by intro i hi; simp only [List.mem_cons, List.not_mem_nil, or_false] at hi ⊢ <;> omega)
  show SG ZX G mt_PG_wire 7 [(0, .ref 61), (1, .int (nI 2)), (2, .int (nI 2)), (3, .int z)] [.int (nI 0)] u1 0 0 _
  refine H_if_neN d_PG_wire_7 rfl (by omega) (fun c => by first | exact absurd c (by omega) | exact c.elim | exact absurd c (by decide) | exact absurd (by assumption) c | exact absurd c (by assumption) | exact absurd c (Int32.not_le.mpr (by assumption))) (fun _ => ?_)
  exact H_throw rfl d_PG_wire_10 d_PG_wire_13 d_PG_wire_14 d_PG_wire_17 th_cl th_in (by decide) (Nat.le_of_ble_eq_true rfl) (by decide) (by decide) (hQ _ hv2 hm4)
set_option maxRecDepth 100000 in
set_option maxHeartbeats 4000000 in
theorem t_PG_wire_2_2_out (G : GX) (hNT : G.1.stackTraces = false) (v : Nat → Int32) (i : Nat) (b_i : i < 2147483648) (k : Nat) (e49 : v 49 = nI k) (hk : k ≤ i ∧ k ≤ 320) (hv : okv v) : CSx G mt_PG_wire [.ref 61, .int (nI 2), .int (nI 2), .int (nI i)] v (fun _ v' => okv v' ∧ mdf [] v v') := by
  refine CSx.of hNT (by decide) (Nat.le_of_ble_eq_true rfl) ?_
  generalize hQe : (fun (_ : Option Value) (v' : Nat → Int32) => okv v' ∧ mdf [] v v') = Q
  have hQ : ∀ u, okv u → mdf [] v u → Q none u := by rw [← hQe]; exact fun u h1 h2 => ⟨h1, h2⟩
  clear hQe
  have hm : mdf [] v v := mdf.rf
  show SG ZX G mt_PG_wire 0 [(0, .ref 61), (1, .int (nI 2)), (2, .int (nI 2)), (3, .int (nI i))] [] v 0 0 Q
  refine SG.lift (fun _ _ k => G_aload_n (v := .ref 61) d_PG_wire_0 rfl (Or.inr ⟨_, rfl⟩) k) ?_
  refine SG.lift (fun _ _ k => G_iload_n d_PG_wire_1 rfl k) ?_
  refine SG.lift (fun _ _ k => G_iload_n d_PG_wire_2 rfl k) ?_
  refine SG.lift (fun _ _ k => G_iload_n d_PG_wire_3 rfl k) ?_
  refine H_virtual (as := [.int (nI 2), .int (nI 2), .int (nI i)]) (rest := []) (b := 61) d_PG_wire_4 rfl (jw_PG_isOnWire.jo (by decide)) lm_PG_154 ji_PG_isOnWire js_PG_isOnWire (w61 _) rfl rfl rfl (Nat.le_of_ble_eq_true rfl) (by decide) (by decide) (c_PG_isOnWire_2_2_out G v i (by omega) k e49 (by omega) hv) (fun r u1 hq => ?_)
  obtain ⟨hr, hv2, hm3, fe0_u1⟩ := hq
  rw [hr]
  clear hr r
  have hm4 := hm.go hm3 (by intro i hi; simp only [List.mem_cons, List.not_mem_nil, or_false] at hi ⊢ <;> omega)
  have e5 : u1 49 = nI k := (hm3 49 (by decide)).trans e49
  show SG ZX G mt_PG_wire 7 [(0, .ref 61), (1, .int (nI 2)), (2, .int (nI 2)), (3, .int (nI i))] [.int (nI 0)] u1 0 0 _
  refine H_if_neN d_PG_wire_7 rfl (by omega) (fun c => by first | exact absurd c (by omega) | exact c.elim | exact absurd c (by decide) | exact absurd (by assumption) c | exact absurd c (by assumption) | exact absurd c (Int32.not_le.mpr (by assumption))) (fun _ => ?_)
  exact H_throw rfl d_PG_wire_10 d_PG_wire_13 d_PG_wire_14 d_PG_wire_17 th_cl th_in (by decide) (Nat.le_of_ble_eq_true rfl) (by decide) (by decide) (hQ _ hv2 hm4)
set_option maxRecDepth 100000 in
set_option maxHeartbeats 4000000 in
theorem t_PG_wire_2_3_neg (G : GX) (hNT : G.1.stackTraces = false) (v : Nat → Int32) (z : Int32) (hz_n : z < 0) (hv : okv v) : CSx G mt_PG_wire [.ref 61, .int (nI 2), .int (nI 3), .int z] v (fun _ v' => okv v' ∧ mdf [] v v') := by
  refine CSx.of hNT (by decide) (Nat.le_of_ble_eq_true rfl) ?_
  generalize hQe : (fun (_ : Option Value) (v' : Nat → Int32) => okv v' ∧ mdf [] v v') = Q
  have hQ : ∀ u, okv u → mdf [] v u → Q none u := by rw [← hQe]; exact fun u h1 h2 => ⟨h1, h2⟩
  clear hQe
  have hm : mdf [] v v := mdf.rf
  show SG ZX G mt_PG_wire 0 [(0, .ref 61), (1, .int (nI 2)), (2, .int (nI 3)), (3, .int z)] [] v 0 0 Q
  refine SG.lift (fun _ _ k => G_aload_n (v := .ref 61) d_PG_wire_0 rfl (Or.inr ⟨_, rfl⟩) k) ?_
  refine SG.lift (fun _ _ k => G_iload_n d_PG_wire_1 rfl k) ?_
  refine SG.lift (fun _ _ k => G_iload_n d_PG_wire_2 rfl k) ?_
  refine SG.lift (fun _ _ k => G_iload_n d_PG_wire_3 rfl k) ?_
  refine H_virtual (as := [.int (nI 2), .int (nI 3), .int z]) (rest := []) (b := 61) d_PG_wire_4 rfl (jw_PG_isOnWire.jo (by decide)) lm_PG_154 ji_PG_isOnWire js_PG_isOnWire (w61 _) rfl rfl rfl (Nat.le_of_ble_eq_true rfl) (by decide) (by decide) (c_PG_isOnWire_2_3_neg G v z hz_n hv) (fun r u1 hq => ?_)
  obtain ⟨hr, hv2, hm3⟩ := hq
  rw [hr]
  clear hr r
  have hm4 := hm.go hm3 (by intro i hi; simp only [List.mem_cons, List.not_mem_nil, or_false] at hi ⊢ <;> omega)
  show SG ZX G mt_PG_wire 7 [(0, .ref 61), (1, .int (nI 2)), (2, .int (nI 3)), (3, .int z)] [.int (nI 0)] u1 0 0 _
  refine H_if_neN d_PG_wire_7 rfl (by omega) (fun c => by first | exact absurd c (by omega) | exact c.elim | exact absurd c (by decide) | exact absurd (by assumption) c | exact absurd c (by assumption) | exact absurd c (Int32.not_le.mpr (by assumption))) (fun _ => ?_)
  exact H_throw rfl d_PG_wire_10 d_PG_wire_13 d_PG_wire_14 d_PG_wire_17 th_cl th_in (by decide) (Nat.le_of_ble_eq_true rfl) (by decide) (by decide) (hQ _ hv2 hm4)
set_option maxRecDepth 100000 in
set_option maxHeartbeats 4000000 in
theorem t_PG_wire_2_3_out (G : GX) (hNT : G.1.stackTraces = false) (v : Nat → Int32) (i : Nat) (b_i : i < 2147483648) (k : Nat) (e50 : v 50 = nI k) (hk : k ≤ i ∧ k ≤ 64) (hv : okv v) : CSx G mt_PG_wire [.ref 61, .int (nI 2), .int (nI 3), .int (nI i)] v (fun _ v' => okv v' ∧ mdf [] v v') := by
  refine CSx.of hNT (by decide) (Nat.le_of_ble_eq_true rfl) ?_
  generalize hQe : (fun (_ : Option Value) (v' : Nat → Int32) => okv v' ∧ mdf [] v v') = Q
  have hQ : ∀ u, okv u → mdf [] v u → Q none u := by rw [← hQe]; exact fun u h1 h2 => ⟨h1, h2⟩
  clear hQe
  have hm : mdf [] v v := mdf.rf
  show SG ZX G mt_PG_wire 0 [(0, .ref 61), (1, .int (nI 2)), (2, .int (nI 3)), (3, .int (nI i))] [] v 0 0 Q
  refine SG.lift (fun _ _ k => G_aload_n (v := .ref 61) d_PG_wire_0 rfl (Or.inr ⟨_, rfl⟩) k) ?_
  refine SG.lift (fun _ _ k => G_iload_n d_PG_wire_1 rfl k) ?_
  refine SG.lift (fun _ _ k => G_iload_n d_PG_wire_2 rfl k) ?_
  refine SG.lift (fun _ _ k => G_iload_n d_PG_wire_3 rfl k) ?_
  refine H_virtual (as := [.int (nI 2), .int (nI 3), .int (nI i)]) (rest := []) (b := 61) d_PG_wire_4 rfl (jw_PG_isOnWire.jo (by decide)) lm_PG_154 ji_PG_isOnWire js_PG_isOnWire (w61 _) rfl rfl rfl (Nat.le_of_ble_eq_true rfl) (by decide) (by decide) (c_PG_isOnWire_2_3_out G v i (by omega) k e50 (by omega) hv) (fun r u1 hq => ?_)
  obtain ⟨hr, hv2, hm3, fe0_u1⟩ := hq
  rw [hr]
  clear hr r
  have hm4 := hm.go hm3 (by intro i hi; simp only [List.mem_cons, List.not_mem_nil, or_false] at hi ⊢ <;> omega)
  have e5 : u1 50 = nI k := (hm3 50 (by decide)).trans e50
  show SG ZX G mt_PG_wire 7 [(0, .ref 61), (1, .int (nI 2)), (2, .int (nI 3)), (3, .int (nI i))] [.int (nI 0)] u1 0 0 _
  refine H_if_neN d_PG_wire_7 rfl (by omega) (fun c => by first | exact absurd c (by omega) | exact c.elim | exact absurd c (by decide) | exact absurd (by assumption) c | exact absurd c (by assumption) | exact absurd c (Int32.not_le.mpr (by assumption))) (fun _ => ?_)
  exact H_throw rfl d_PG_wire_10 d_PG_wire_13 d_PG_wire_14 d_PG_wire_17 th_cl th_in (by decide) (Nat.le_of_ble_eq_true rfl) (by decide) (by decide) (hQ _ hv2 hm4)
set_option maxRecDepth 100000 in
set_option maxHeartbeats 4000000 in
theorem t_PG_key_2_0_neg (G : GX) (hNT : G.1.stackTraces = false) (v : Nat → Int32) (z : Int32) (hz_n : z < 0) (hv : okv v) : CSx G mt_PG_key [.ref 61, .int (nI 2), .int (nI 0), .int z] v (fun _ v' => okv v' ∧ mdf [] v v') := by
  refine CSx.of hNT (by decide) (Nat.le_of_ble_eq_true rfl) ?_
  generalize hQe : (fun (_ : Option Value) (v' : Nat → Int32) => okv v' ∧ mdf [] v v') = Q
  have hQ : ∀ u, okv u → mdf [] v u → Q none u := by rw [← hQe]; exact fun u h1 h2 => ⟨h1, h2⟩
  clear hQe
  have hm : mdf [] v v := mdf.rf
  show SG ZX G mt_PG_key 0 [(0, .ref 61), (1, .int (nI 2)), (2, .int (nI 0)), (3, .int z)] [] v 0 0 Q
  refine SG.lift (fun _ _ k => G_iload_n d_PG_key_0 rfl k) ?_
  refine H_static (as := [.int (nI 2)]) (rest := []) d_PG_key_1 rfl (jw_PG_isSession.jo (by decide)) lm_PG_133 jt_PG_isSession rfl (Nat.le_of_ble_eq_true rfl) (by decide) (by decide) (c_PG_isSession G v 2 (by omega)) (fun r v' hq => ?_)
  rw [hq.1, hq.2]
  clear hq r v'
  show SG ZX G mt_PG_key 4 [(0, .ref 61), (1, .int (nI 2)), (2, .int (nI 0)), (3, .int z)] [.int (nI 1)] v 0 0 _
  refine H_if_eqN d_PG_key_4 rfl (by omega) (fun c => by first | exact absurd c (by omega) | exact c.elim | exact absurd c (by decide) | exact absurd (by assumption) c | exact absurd c (by assumption) | exact absurd c (Int32.not_le.mpr (by assumption))) (fun _ => ?_)
  refine SG.lift (fun _ _ k => G_iload_n d_PG_key_7 rfl k) ?_
  refine H_if_ltN d_PG_key_8 rfl (by omega) (fun c => by first | exact absurd c (by omega) | exact c.elim | exact absurd c (by decide) | exact absurd (by assumption) c | exact absurd c (by assumption) | exact absurd c (Int32.not_le.mpr (by assumption))) (fun _ => ?_)
  refine SG.lift (fun _ _ k => G_iload_n d_PG_key_11 rfl k) ?_
  refine SG.lift (fun _ _ k => G_iconst (v := nI 2) d_PG_key_12 (by decide) k) ?_
  refine H_icmp_gtN d_PG_key_13 rfl (by omega) (by omega) (fun c => by first | exact absurd c (by omega) | exact c.elim | exact absurd c (by decide) | exact absurd (by assumption) c | exact absurd c (by assumption) | exact absurd c (Int32.not_le.mpr (by assumption))) (fun _ => ?_)
  refine SG.lift (fun _ _ k => G_aload_n (v := .ref 61) d_PG_key_16 rfl (Or.inr ⟨_, rfl⟩) k) ?_
  refine H_getfield d_PG_key_17 fg_PG_34 (w61 _) rfl ?_
  refine SG.lift (fun _ _ k => G_iload_n d_PG_key_20 rfl k) ?_
  refine H_aaload (C0 := "PasswordGate$Session") d_PG_key_21 (by decide) (w264 _) rfl (vp_in_nI (by omega) (by omega)) ?_
  refine H_getfield d_PG_key_22 fg_PG_162 (w317 _) rfl ?_
  refine SG.lift (fun _ _ k => G_iload_n d_PG_key_25 rfl k) ?_
  refine H_aaload (C0 := "PasswordGate$Bytes") d_PG_key_26 (by decide) (w319 _) rfl (vp_in_nI (by omega) (by omega)) ?_
  refine SG.lift (fun _ _ k => G_iload_n d_PG_key_27 rfl k) ?_
  refine H_virtual (as := [.int z]) (rest := []) (b := 337) d_PG_key_28 rfl (jw_By_has.jo (by decide)) lm_PG_119 ji_By_has js_By_has (w337 _) rfl rfl rfl (Nat.le_of_ble_eq_true rfl) (by decide) (by decide) (c_By_has_neg G v 337 338 64 51 ⟨w337, a338, by decide, u337_1, by decide, by decide⟩ z hz_n hv) (fun r u1 hq => ?_)
  obtain ⟨hr, hv2, hm3⟩ := hq
  rw [hr]
  clear hr r
  have hm4 := hm.go hm3 (by intro i hi; simp only [List.mem_cons, List.not_mem_nil, or_false] at hi ⊢ <;> omega)
  show SG ZX G mt_PG_key 31 [(0, .ref 61), (1, .int (nI 2)), (2, .int (nI 0)), (3, .int z)] [.int (nI 0)] u1 0 0 _
  refine H_if_neN d_PG_key_31 rfl (by omega) (fun c => by first | exact absurd c (by omega) | exact c.elim | exact absurd c (by decide) | exact absurd (by assumption) c | exact absurd c (by assumption) | exact absurd c (Int32.not_le.mpr (by assumption))) (fun _ => ?_)
  exact H_throw rfl d_PG_key_34 d_PG_key_37 d_PG_key_38 d_PG_key_41 th_cl th_in (by decide) (Nat.le_of_ble_eq_true rfl) (by decide) (by decide) (hQ _ hv2 hm4)
set_option maxRecDepth 100000 in
set_option maxHeartbeats 4000000 in
theorem t_PG_key_2_0_out (G : GX) (hNT : G.1.stackTraces = false) (v : Nat → Int32) (i : Nat) (b_i : i < 2147483648) (k : Nat) (e51 : v 51 = nI k) (hk : k ≤ i ∧ k ≤ 64) (hv : okv v) : CSx G mt_PG_key [.ref 61, .int (nI 2), .int (nI 0), .int (nI i)] v (fun _ v' => okv v' ∧ mdf [] v v') := by
  refine CSx.of hNT (by decide) (Nat.le_of_ble_eq_true rfl) ?_
  generalize hQe : (fun (_ : Option Value) (v' : Nat → Int32) => okv v' ∧ mdf [] v v') = Q
  have hQ : ∀ u, okv u → mdf [] v u → Q none u := by rw [← hQe]; exact fun u h1 h2 => ⟨h1, h2⟩
  clear hQe
  have hm : mdf [] v v := mdf.rf
  show SG ZX G mt_PG_key 0 [(0, .ref 61), (1, .int (nI 2)), (2, .int (nI 0)), (3, .int (nI i))] [] v 0 0 Q
  refine SG.lift (fun _ _ k => G_iload_n d_PG_key_0 rfl k) ?_
  refine H_static (as := [.int (nI 2)]) (rest := []) d_PG_key_1 rfl (jw_PG_isSession.jo (by decide)) lm_PG_133 jt_PG_isSession rfl (Nat.le_of_ble_eq_true rfl) (by decide) (by decide) (c_PG_isSession G v 2 (by omega)) (fun r v' hq => ?_)
  rw [hq.1, hq.2]
  clear hq r v'
  show SG ZX G mt_PG_key 4 [(0, .ref 61), (1, .int (nI 2)), (2, .int (nI 0)), (3, .int (nI i))] [.int (nI 1)] v 0 0 _
  refine H_if_eqN d_PG_key_4 rfl (by omega) (fun c => by first | exact absurd c (by omega) | exact c.elim | exact absurd c (by decide) | exact absurd (by assumption) c | exact absurd c (by assumption) | exact absurd c (Int32.not_le.mpr (by assumption))) (fun _ => ?_)
  refine SG.lift (fun _ _ k => G_iload_n d_PG_key_7 rfl k) ?_
  refine H_if_ltN d_PG_key_8 rfl (by omega) (fun c => by first | exact absurd c (by omega) | exact c.elim | exact absurd c (by decide) | exact absurd (by assumption) c | exact absurd c (by assumption) | exact absurd c (Int32.not_le.mpr (by assumption))) (fun _ => ?_)
  refine SG.lift (fun _ _ k => G_iload_n d_PG_key_11 rfl k) ?_
  refine SG.lift (fun _ _ k => G_iconst (v := nI 2) d_PG_key_12 (by decide) k) ?_
  refine H_icmp_gtN d_PG_key_13 rfl (by omega) (by omega) (fun c => by first | exact absurd c (by omega) | exact c.elim | exact absurd c (by decide) | exact absurd (by assumption) c | exact absurd c (by assumption) | exact absurd c (Int32.not_le.mpr (by assumption))) (fun _ => ?_)
  refine SG.lift (fun _ _ k => G_aload_n (v := .ref 61) d_PG_key_16 rfl (Or.inr ⟨_, rfl⟩) k) ?_
  refine H_getfield d_PG_key_17 fg_PG_34 (w61 _) rfl ?_
  refine SG.lift (fun _ _ k => G_iload_n d_PG_key_20 rfl k) ?_
  refine H_aaload (C0 := "PasswordGate$Session") d_PG_key_21 (by decide) (w264 _) rfl (vp_in_nI (by omega) (by omega)) ?_
  refine H_getfield d_PG_key_22 fg_PG_162 (w317 _) rfl ?_
  refine SG.lift (fun _ _ k => G_iload_n d_PG_key_25 rfl k) ?_
  refine H_aaload (C0 := "PasswordGate$Bytes") d_PG_key_26 (by decide) (w319 _) rfl (vp_in_nI (by omega) (by omega)) ?_
  refine SG.lift (fun _ _ k => G_iload_n d_PG_key_27 rfl k) ?_
  refine H_virtual (as := [.int (nI i)]) (rest := []) (b := 337) d_PG_key_28 rfl (jw_By_has.jo (by decide)) lm_PG_119 ji_By_has js_By_has (w337 _) rfl rfl rfl (Nat.le_of_ble_eq_true rfl) (by decide) (by decide) (c_By_has_out G v 337 338 64 51 ⟨w337, a338, by decide, u337_1, by decide, by decide⟩ i (by omega) k e51 (by omega) hv) (fun r u1 hq => ?_)
  obtain ⟨hr, hv2, hm3, fe0_u1⟩ := hq
  rw [hr]
  clear hr r
  have hm4 := hm.go hm3 (by intro i hi; simp only [List.mem_cons, List.not_mem_nil, or_false] at hi ⊢ <;> omega)
  have e5 : u1 51 = nI k := (hm3 51 (by decide)).trans e51
  show SG ZX G mt_PG_key 31 [(0, .ref 61), (1, .int (nI 2)), (2, .int (nI 0)), (3, .int (nI i))] [.int (nI 0)] u1 0 0 _
  refine H_if_neN d_PG_key_31 rfl (by omega) (fun c => by first | exact absurd c (by omega) | exact c.elim | exact absurd c (by decide) | exact absurd (by assumption) c | exact absurd c (by assumption) | exact absurd c (Int32.not_le.mpr (by assumption))) (fun _ => ?_)
  exact H_throw rfl d_PG_key_34 d_PG_key_37 d_PG_key_38 d_PG_key_41 th_cl th_in (by decide) (Nat.le_of_ble_eq_true rfl) (by decide) (by decide) (hQ _ hv2 hm4)
set_option maxRecDepth 100000 in
set_option maxHeartbeats 4000000 in
theorem t_PG_key_2_1_neg (G : GX) (hNT : G.1.stackTraces = false) (v : Nat → Int32) (z : Int32) (hz_n : z < 0) (hv : okv v) : CSx G mt_PG_key [.ref 61, .int (nI 2), .int (nI 1), .int z] v (fun _ v' => okv v' ∧ mdf [] v v') := by
  refine CSx.of hNT (by decide) (Nat.le_of_ble_eq_true rfl) ?_
  generalize hQe : (fun (_ : Option Value) (v' : Nat → Int32) => okv v' ∧ mdf [] v v') = Q
  have hQ : ∀ u, okv u → mdf [] v u → Q none u := by rw [← hQe]; exact fun u h1 h2 => ⟨h1, h2⟩
  clear hQe
  have hm : mdf [] v v := mdf.rf
  show SG ZX G mt_PG_key 0 [(0, .ref 61), (1, .int (nI 2)), (2, .int (nI 1)), (3, .int z)] [] v 0 0 Q
  refine SG.lift (fun _ _ k => G_iload_n d_PG_key_0 rfl k) ?_
  refine H_static (as := [.int (nI 2)]) (rest := []) d_PG_key_1 rfl (jw_PG_isSession.jo (by decide)) lm_PG_133 jt_PG_isSession rfl (Nat.le_of_ble_eq_true rfl) (by decide) (by decide) (c_PG_isSession G v 2 (by omega)) (fun r v' hq => ?_)
  rw [hq.1, hq.2]
  clear hq r v'
  show SG ZX G mt_PG_key 4 [(0, .ref 61), (1, .int (nI 2)), (2, .int (nI 1)), (3, .int z)] [.int (nI 1)] v 0 0 _
  refine H_if_eqN d_PG_key_4 rfl (by omega) (fun c => by first | exact absurd c (by omega) | exact c.elim | exact absurd c (by decide) | exact absurd (by assumption) c | exact absurd c (by assumption) | exact absurd c (Int32.not_le.mpr (by assumption))) (fun _ => ?_)
  refine SG.lift (fun _ _ k => G_iload_n d_PG_key_7 rfl k) ?_
  refine H_if_ltN d_PG_key_8 rfl (by omega) (fun c => by first | exact absurd c (by omega) | exact c.elim | exact absurd c (by decide) | exact absurd (by assumption) c | exact absurd c (by assumption) | exact absurd c (Int32.not_le.mpr (by assumption))) (fun _ => ?_)
  refine SG.lift (fun _ _ k => G_iload_n d_PG_key_11 rfl k) ?_
  refine SG.lift (fun _ _ k => G_iconst (v := nI 2) d_PG_key_12 (by decide) k) ?_
  refine H_icmp_gtN d_PG_key_13 rfl (by omega) (by omega) (fun c => by first | exact absurd c (by omega) | exact c.elim | exact absurd c (by decide) | exact absurd (by assumption) c | exact absurd c (by assumption) | exact absurd c (Int32.not_le.mpr (by assumption))) (fun _ => ?_)
  refine SG.lift (fun _ _ k => G_aload_n (v := .ref 61) d_PG_key_16 rfl (Or.inr ⟨_, rfl⟩) k) ?_
  refine H_getfield d_PG_key_17 fg_PG_34 (w61 _) rfl ?_
  refine SG.lift (fun _ _ k => G_iload_n d_PG_key_20 rfl k) ?_
  refine H_aaload (C0 := "PasswordGate$Session") d_PG_key_21 (by decide) (w264 _) rfl (vp_in_nI (by omega) (by omega)) ?_
  refine H_getfield d_PG_key_22 fg_PG_162 (w317 _) rfl ?_
  refine SG.lift (fun _ _ k => G_iload_n d_PG_key_25 rfl k) ?_
  refine H_aaload (C0 := "PasswordGate$Bytes") d_PG_key_26 (by decide) (w319 _) rfl (vp_in_nI (by omega) (by omega)) ?_
  refine SG.lift (fun _ _ k => G_iload_n d_PG_key_27 rfl k) ?_
  refine H_virtual (as := [.int z]) (rest := []) (b := 339) d_PG_key_28 rfl (jw_By_has.jo (by decide)) lm_PG_119 ji_By_has js_By_has (w339 _) rfl rfl rfl (Nat.le_of_ble_eq_true rfl) (by decide) (by decide) (c_By_has_neg G v 339 340 64 52 ⟨w339, a340, by decide, u339_1, by decide, by decide⟩ z hz_n hv) (fun r u1 hq => ?_)
  obtain ⟨hr, hv2, hm3⟩ := hq
  rw [hr]
  clear hr r
  have hm4 := hm.go hm3 (by intro i hi; simp only [List.mem_cons, List.not_mem_nil, or_false] at hi ⊢ <;> omega)
  show SG ZX G mt_PG_key 31 [(0, .ref 61), (1, .int (nI 2)), (2, .int (nI 1)), (3, .int z)] [.int (nI 0)] u1 0 0 _
  refine H_if_neN d_PG_key_31 rfl (by omega) (fun c => by first | exact absurd c (by omega) | exact c.elim | exact absurd c (by decide) | exact absurd (by assumption) c | exact absurd c (by assumption) | exact absurd c (Int32.not_le.mpr (by assumption))) (fun _ => ?_)
  exact H_throw rfl d_PG_key_34 d_PG_key_37 d_PG_key_38 d_PG_key_41 th_cl th_in (by decide) (Nat.le_of_ble_eq_true rfl) (by decide) (by decide) (hQ _ hv2 hm4)
set_option maxRecDepth 100000 in
set_option maxHeartbeats 4000000 in
theorem t_PG_key_2_1_out (G : GX) (hNT : G.1.stackTraces = false) (v : Nat → Int32) (i : Nat) (b_i : i < 2147483648) (k : Nat) (e52 : v 52 = nI k) (hk : k ≤ i ∧ k ≤ 64) (hv : okv v) : CSx G mt_PG_key [.ref 61, .int (nI 2), .int (nI 1), .int (nI i)] v (fun _ v' => okv v' ∧ mdf [] v v') := by
  refine CSx.of hNT (by decide) (Nat.le_of_ble_eq_true rfl) ?_
  generalize hQe : (fun (_ : Option Value) (v' : Nat → Int32) => okv v' ∧ mdf [] v v') = Q
  have hQ : ∀ u, okv u → mdf [] v u → Q none u := by rw [← hQe]; exact fun u h1 h2 => ⟨h1, h2⟩
  clear hQe
  have hm : mdf [] v v := mdf.rf
  show SG ZX G mt_PG_key 0 [(0, .ref 61), (1, .int (nI 2)), (2, .int (nI 1)), (3, .int (nI i))] [] v 0 0 Q
  refine SG.lift (fun _ _ k => G_iload_n d_PG_key_0 rfl k) ?_
  refine H_static (as := [.int (nI 2)]) (rest := []) d_PG_key_1 rfl (jw_PG_isSession.jo (by decide)) lm_PG_133 jt_PG_isSession rfl (Nat.le_of_ble_eq_true rfl) (by decide) (by decide) (c_PG_isSession G v 2 (by omega)) (fun r v' hq => ?_)
  rw [hq.1, hq.2]
  clear hq r v'
  show SG ZX G mt_PG_key 4 [(0, .ref 61), (1, .int (nI 2)), (2, .int (nI 1)), (3, .int (nI i))] [.int (nI 1)] v 0 0 _
  refine H_if_eqN d_PG_key_4 rfl (by omega) (fun c => by first | exact absurd c (by omega) | exact c.elim | exact absurd c (by decide) | exact absurd (by assumption) c | exact absurd c (by assumption) | exact absurd c (Int32.not_le.mpr (by assumption))) (fun _ => ?_)
  refine SG.lift (fun _ _ k => G_iload_n d_PG_key_7 rfl k) ?_
  refine H_if_ltN d_PG_key_8 rfl (by omega) (fun c => by first | exact absurd c (by omega) | exact c.elim | exact absurd c (by decide) | exact absurd (by assumption) c | exact absurd c (by assumption) | exact absurd c (Int32.not_le.mpr (by assumption))) (fun _ => ?_)
  refine SG.lift (fun _ _ k => G_iload_n d_PG_key_11 rfl k) ?_
  refine SG.lift (fun _ _ k => G_iconst (v := nI 2) d_PG_key_12 (by decide) k) ?_
  refine H_icmp_gtN d_PG_key_13 rfl (by omega) (by omega) (fun c => by first | exact absurd c (by omega) | exact c.elim | exact absurd c (by decide) | exact absurd (by assumption) c | exact absurd c (by assumption) | exact absurd c (Int32.not_le.mpr (by assumption))) (fun _ => ?_)
  refine SG.lift (fun _ _ k => G_aload_n (v := .ref 61) d_PG_key_16 rfl (Or.inr ⟨_, rfl⟩) k) ?_
  refine H_getfield d_PG_key_17 fg_PG_34 (w61 _) rfl ?_
  refine SG.lift (fun _ _ k => G_iload_n d_PG_key_20 rfl k) ?_
  refine H_aaload (C0 := "PasswordGate$Session") d_PG_key_21 (by decide) (w264 _) rfl (vp_in_nI (by omega) (by omega)) ?_
  refine H_getfield d_PG_key_22 fg_PG_162 (w317 _) rfl ?_
  refine SG.lift (fun _ _ k => G_iload_n d_PG_key_25 rfl k) ?_
  refine H_aaload (C0 := "PasswordGate$Bytes") d_PG_key_26 (by decide) (w319 _) rfl (vp_in_nI (by omega) (by omega)) ?_
  refine SG.lift (fun _ _ k => G_iload_n d_PG_key_27 rfl k) ?_
  refine H_virtual (as := [.int (nI i)]) (rest := []) (b := 339) d_PG_key_28 rfl (jw_By_has.jo (by decide)) lm_PG_119 ji_By_has js_By_has (w339 _) rfl rfl rfl (Nat.le_of_ble_eq_true rfl) (by decide) (by decide) (c_By_has_out G v 339 340 64 52 ⟨w339, a340, by decide, u339_1, by decide, by decide⟩ i (by omega) k e52 (by omega) hv) (fun r u1 hq => ?_)
  obtain ⟨hr, hv2, hm3, fe0_u1⟩ := hq
  rw [hr]
  clear hr r
  have hm4 := hm.go hm3 (by intro i hi; simp only [List.mem_cons, List.not_mem_nil, or_false] at hi ⊢ <;> omega)
  have e5 : u1 52 = nI k := (hm3 52 (by decide)).trans e52
  show SG ZX G mt_PG_key 31 [(0, .ref 61), (1, .int (nI 2)), (2, .int (nI 1)), (3, .int (nI i))] [.int (nI 0)] u1 0 0 _
  refine H_if_neN d_PG_key_31 rfl (by omega) (fun c => by first | exact absurd c (by omega) | exact c.elim | exact absurd c (by decide) | exact absurd (by assumption) c | exact absurd c (by assumption) | exact absurd c (Int32.not_le.mpr (by assumption))) (fun _ => ?_)
  exact H_throw rfl d_PG_key_34 d_PG_key_37 d_PG_key_38 d_PG_key_41 th_cl th_in (by decide) (Nat.le_of_ble_eq_true rfl) (by decide) (by decide) (hQ _ hv2 hm4)
set_option maxRecDepth 100000 in
set_option maxHeartbeats 4000000 in
theorem t_PG_key_2_2_neg (G : GX) (hNT : G.1.stackTraces = false) (v : Nat → Int32) (z : Int32) (hz_n : z < 0) (hv : okv v) : CSx G mt_PG_key [.ref 61, .int (nI 2), .int (nI 2), .int z] v (fun _ v' => okv v' ∧ mdf [] v v') := by
  refine CSx.of hNT (by decide) (Nat.le_of_ble_eq_true rfl) ?_
  generalize hQe : (fun (_ : Option Value) (v' : Nat → Int32) => okv v' ∧ mdf [] v v') = Q
  have hQ : ∀ u, okv u → mdf [] v u → Q none u := by rw [← hQe]; exact fun u h1 h2 => ⟨h1, h2⟩
  clear hQe
  have hm : mdf [] v v := mdf.rf
  show SG ZX G mt_PG_key 0 [(0, .ref 61), (1, .int (nI 2)), (2, .int (nI 2)), (3, .int z)] [] v 0 0 Q
  refine SG.lift (fun _ _ k => G_iload_n d_PG_key_0 rfl k) ?_
  refine H_static (as := [.int (nI 2)]) (rest := []) d_PG_key_1 rfl (jw_PG_isSession.jo (by decide)) lm_PG_133 jt_PG_isSession rfl (Nat.le_of_ble_eq_true rfl) (by decide) (by decide) (c_PG_isSession G v 2 (by omega)) (fun r v' hq => ?_)
  rw [hq.1, hq.2]
  clear hq r v'
  show SG ZX G mt_PG_key 4 [(0, .ref 61), (1, .int (nI 2)), (2, .int (nI 2)), (3, .int z)] [.int (nI 1)] v 0 0 _
  refine H_if_eqN d_PG_key_4 rfl (by omega) (fun c => by first | exact absurd c (by omega) | exact c.elim | exact absurd c (by decide) | exact absurd (by assumption) c | exact absurd c (by assumption) | exact absurd c (Int32.not_le.mpr (by assumption))) (fun _ => ?_)
  refine SG.lift (fun _ _ k => G_iload_n d_PG_key_7 rfl k) ?_
  refine H_if_ltN d_PG_key_8 rfl (by omega) (fun c => by first | exact absurd c (by omega) | exact c.elim | exact absurd c (by decide) | exact absurd (by assumption) c | exact absurd c (by assumption) | exact absurd c (Int32.not_le.mpr (by assumption))) (fun _ => ?_)
  refine SG.lift (fun _ _ k => G_iload_n d_PG_key_11 rfl k) ?_
  refine SG.lift (fun _ _ k => G_iconst (v := nI 2) d_PG_key_12 (by decide) k) ?_
  refine H_icmp_gtN d_PG_key_13 rfl (by omega) (by omega) (fun c => by first | exact absurd c (by omega) | exact c.elim | exact absurd c (by decide) | exact absurd (by assumption) c | exact absurd c (by assumption) | exact absurd c (Int32.not_le.mpr (by assumption))) (fun _ => ?_)
  refine SG.lift (fun _ _ k => G_aload_n (v := .ref 61) d_PG_key_16 rfl (Or.inr ⟨_, rfl⟩) k) ?_
  refine H_getfield d_PG_key_17 fg_PG_34 (w61 _) rfl ?_
  refine SG.lift (fun _ _ k => G_iload_n d_PG_key_20 rfl k) ?_
  refine H_aaload (C0 := "PasswordGate$Session") d_PG_key_21 (by decide) (w264 _) rfl (vp_in_nI (by omega) (by omega)) ?_
  refine H_getfield d_PG_key_22 fg_PG_162 (w317 _) rfl ?_
  refine SG.lift (fun _ _ k => G_iload_n d_PG_key_25 rfl k) ?_
  refine H_aaload (C0 := "PasswordGate$Bytes") d_PG_key_26 (by decide) (w319 _) rfl (vp_in_nI (by omega) (by omega)) ?_
  refine SG.lift (fun _ _ k => G_iload_n d_PG_key_27 rfl k) ?_
  refine H_virtual (as := [.int z]) (rest := []) (b := 341) d_PG_key_28 rfl (jw_By_has.jo (by decide)) lm_PG_119 ji_By_has js_By_has (w341 _) rfl rfl rfl (Nat.le_of_ble_eq_true rfl) (by decide) (by decide) (c_By_has_neg G v 341 342 64 53 ⟨w341, a342, by decide, u341_1, by decide, by decide⟩ z hz_n hv) (fun r u1 hq => ?_)
  obtain ⟨hr, hv2, hm3⟩ := hq
  rw [hr]
  clear hr r
  have hm4 := hm.go hm3 (by intro i hi; simp only [List.mem_cons, List.not_mem_nil, or_false] at hi ⊢ <;> omega)
  show SG ZX G mt_PG_key 31 [(0, .ref 61), (1, .int (nI 2)), (2, .int (nI 2)), (3, .int z)] [.int (nI 0)] u1 0 0 _
  refine H_if_neN d_PG_key_31 rfl (by omega) (fun c => by first | exact absurd c (by omega) | exact c.elim | exact absurd c (by decide) | exact absurd (by assumption) c | exact absurd c (by assumption) | exact absurd c (Int32.not_le.mpr (by assumption))) (fun _ => ?_)
  exact H_throw rfl d_PG_key_34 d_PG_key_37 d_PG_key_38 d_PG_key_41 th_cl th_in (by decide) (Nat.le_of_ble_eq_true rfl) (by decide) (by decide) (hQ _ hv2 hm4)
set_option maxRecDepth 100000 in
set_option maxHeartbeats 4000000 in
theorem t_PG_key_2_2_out (G : GX) (hNT : G.1.stackTraces = false) (v : Nat → Int32) (i : Nat) (b_i : i < 2147483648) (k : Nat) (e53 : v 53 = nI k) (hk : k ≤ i ∧ k ≤ 64) (hv : okv v) : CSx G mt_PG_key [.ref 61, .int (nI 2), .int (nI 2), .int (nI i)] v (fun _ v' => okv v' ∧ mdf [] v v') := by
  refine CSx.of hNT (by decide) (Nat.le_of_ble_eq_true rfl) ?_
  generalize hQe : (fun (_ : Option Value) (v' : Nat → Int32) => okv v' ∧ mdf [] v v') = Q
  have hQ : ∀ u, okv u → mdf [] v u → Q none u := by rw [← hQe]; exact fun u h1 h2 => ⟨h1, h2⟩
  clear hQe
  have hm : mdf [] v v := mdf.rf
  show SG ZX G mt_PG_key 0 [(0, .ref 61), (1, .int (nI 2)), (2, .int (nI 2)), (3, .int (nI i))] [] v 0 0 Q
  refine SG.lift (fun _ _ k => G_iload_n d_PG_key_0 rfl k) ?_
  refine H_static (as := [.int (nI 2)]) (rest := []) d_PG_key_1 rfl (jw_PG_isSession.jo (by decide)) lm_PG_133 jt_PG_isSession rfl (Nat.le_of_ble_eq_true rfl) (by decide) (by decide) (c_PG_isSession G v 2 (by omega)) (fun r v' hq => ?_)
  rw [hq.1, hq.2]
  clear hq r v'
  show SG ZX G mt_PG_key 4 [(0, .ref 61), (1, .int (nI 2)), (2, .int (nI 2)), (3, .int (nI i))] [.int (nI 1)] v 0 0 _
  refine H_if_eqN d_PG_key_4 rfl (by omega) (fun c => by first | exact absurd c (by omega) | exact c.elim | exact absurd c (by decide) | exact absurd (by assumption) c | exact absurd c (by assumption) | exact absurd c (Int32.not_le.mpr (by assumption))) (fun _ => ?_)
  refine SG.lift (fun _ _ k => G_iload_n d_PG_key_7 rfl k) ?_
  refine H_if_ltN d_PG_key_8 rfl (by omega) (fun c => by first | exact absurd c (by omega) | exact c.elim | exact absurd c (by decide) | exact absurd (by assumption) c | exact absurd c (by assumption) | exact absurd c (Int32.not_le.mpr (by assumption))) (fun _ => ?_)
  refine SG.lift (fun _ _ k => G_iload_n d_PG_key_11 rfl k) ?_
  refine SG.lift (fun _ _ k => G_iconst (v := nI 2) d_PG_key_12 (by decide) k) ?_
  refine H_icmp_gtN d_PG_key_13 rfl (by omega) (by omega) (fun c => by first | exact absurd c (by omega) | exact c.elim | exact absurd c (by decide) | exact absurd (by assumption) c | exact absurd c (by assumption) | exact absurd c (Int32.not_le.mpr (by assumption))) (fun _ => ?_)
  refine SG.lift (fun _ _ k => G_aload_n (v := .ref 61) d_PG_key_16 rfl (Or.inr ⟨_, rfl⟩) k) ?_
  refine H_getfield d_PG_key_17 fg_PG_34 (w61 _) rfl ?_
  refine SG.lift (fun _ _ k => G_iload_n d_PG_key_20 rfl k) ?_
  refine H_aaload (C0 := "PasswordGate$Session") d_PG_key_21 (by decide) (w264 _) rfl (vp_in_nI (by omega) (by omega)) ?_
  refine H_getfield d_PG_key_22 fg_PG_162 (w317 _) rfl ?_
  refine SG.lift (fun _ _ k => G_iload_n d_PG_key_25 rfl k) ?_
  refine H_aaload (C0 := "PasswordGate$Bytes") d_PG_key_26 (by decide) (w319 _) rfl (vp_in_nI (by omega) (by omega)) ?_
  refine SG.lift (fun _ _ k => G_iload_n d_PG_key_27 rfl k) ?_
  refine H_virtual (as := [.int (nI i)]) (rest := []) (b := 341) d_PG_key_28 rfl (jw_By_has.jo (by decide)) lm_PG_119 ji_By_has js_By_has (w341 _) rfl rfl rfl (Nat.le_of_ble_eq_true rfl) (by decide) (by decide) (c_By_has_out G v 341 342 64 53 ⟨w341, a342, by decide, u341_1, by decide, by decide⟩ i (by omega) k e53 (by omega) hv) (fun r u1 hq => ?_)
  obtain ⟨hr, hv2, hm3, fe0_u1⟩ := hq
  rw [hr]
  clear hr r
  have hm4 := hm.go hm3 (by intro i hi; simp only [List.mem_cons, List.not_mem_nil, or_false] at hi ⊢ <;> omega)
  have e5 : u1 53 = nI k := (hm3 53 (by decide)).trans e53
  show SG ZX G mt_PG_key 31 [(0, .ref 61), (1, .int (nI 2)), (2, .int (nI 2)), (3, .int (nI i))] [.int (nI 0)] u1 0 0 _
  refine H_if_neN d_PG_key_31 rfl (by omega) (fun c => by first | exact absurd c (by omega) | exact c.elim | exact absurd c (by decide) | exact absurd (by assumption) c | exact absurd c (by assumption) | exact absurd c (Int32.not_le.mpr (by assumption))) (fun _ => ?_)
  exact H_throw rfl d_PG_key_34 d_PG_key_37 d_PG_key_38 d_PG_key_41 th_cl th_in (by decide) (Nat.le_of_ble_eq_true rfl) (by decide) (by decide) (hQ _ hv2 hm4)
set_option maxRecDepth 100000 in
set_option maxHeartbeats 4000000 in
theorem t_PG_wire_3_mlt (G : GX) (hNT : G.1.stackTraces = false) (v : Nat → Int32) (y : Int32) (z : Int32) (hy_m : y < nI 1) (hv : okv v) : CSx G mt_PG_wire [.ref 61, .int (nI 3), .int y, .int z] v (fun _ v' => okv v' ∧ mdf [] v v') := by
  refine CSx.of hNT (by decide) (Nat.le_of_ble_eq_true rfl) ?_
  generalize hQe : (fun (_ : Option Value) (v' : Nat → Int32) => okv v' ∧ mdf [] v v') = Q
  have hQ : ∀ u, okv u → mdf [] v u → Q none u := by rw [← hQe]; exact fun u h1 h2 => ⟨h1, h2⟩
  clear hQe
  have hm : mdf [] v v := mdf.rf
  show SG ZX G mt_PG_wire 0 [(0, .ref 61), (1, .int (nI 3)), (2, .int y), (3, .int z)] [] v 0 0 Q
  refine SG.lift (fun _ _ k => G_aload_n (v := .ref 61) d_PG_wire_0 rfl (Or.inr ⟨_, rfl⟩) k) ?_
  refine SG.lift (fun _ _ k => G_iload_n d_PG_wire_1 rfl k) ?_
  refine SG.lift (fun _ _ k => G_iload_n d_PG_wire_2 rfl k) ?_
  refine SG.lift (fun _ _ k => G_iload_n d_PG_wire_3 rfl k) ?_
  refine H_virtual (as := [.int (nI 3), .int y, .int z]) (rest := []) (b := 61) d_PG_wire_4 rfl (jw_PG_isOnWire.jo (by decide)) lm_PG_154 ji_PG_isOnWire js_PG_isOnWire (w61 _) rfl rfl rfl (Nat.le_of_ble_eq_true rfl) (by decide) (by decide) (c_PG_isOnWire_3_mlt G v y z hy_m hv) (fun r u1 hq => ?_)
  obtain ⟨hr, hv2, hm3⟩ := hq
  rw [hr]
  clear hr r
  have hm4 := hm.go hm3 (by intro i hi; simp only [List.mem_cons, List.not_mem_nil, or_false] at hi ⊢ <;> omega)
  show SG ZX G mt_PG_wire 7 [(0, .ref 61), (1, .int (nI 3)), (2, .int y), (3, .int z)] [.int (nI 0)] u1 0 0 _
  refine H_if_neN d_PG_wire_7 rfl (by omega) (fun c => by first | exact absurd c (by omega) | exact c.elim | exact absurd c (by decide) | exact absurd (by assumption) c | exact absurd c (by assumption) | exact absurd c (Int32.not_le.mpr (by assumption))) (fun _ => ?_)
  exact H_throw rfl d_PG_wire_10 d_PG_wire_13 d_PG_wire_14 d_PG_wire_17 th_cl th_in (by decide) (Nat.le_of_ble_eq_true rfl) (by decide) (by decide) (hQ _ hv2 hm4)
set_option maxRecDepth 100000 in
set_option maxHeartbeats 4000000 in
theorem t_PG_wire_3_mgt (G : GX) (hNT : G.1.stackTraces = false) (v : Nat → Int32) (y : Int32) (z : Int32) (h0_m : ¬ y < nI 1) (hy_m : nI 3 < y) (hv : okv v) : CSx G mt_PG_wire [.ref 61, .int (nI 3), .int y, .int z] v (fun _ v' => okv v' ∧ mdf [] v v') := by
  refine CSx.of hNT (by decide) (Nat.le_of_ble_eq_true rfl) ?_
  generalize hQe : (fun (_ : Option Value) (v' : Nat → Int32) => okv v' ∧ mdf [] v v') = Q
  have hQ : ∀ u, okv u → mdf [] v u → Q none u := by rw [← hQe]; exact fun u h1 h2 => ⟨h1, h2⟩
  clear hQe
  have hm : mdf [] v v := mdf.rf
  show SG ZX G mt_PG_wire 0 [(0, .ref 61), (1, .int (nI 3)), (2, .int y), (3, .int z)] [] v 0 0 Q
  refine SG.lift (fun _ _ k => G_aload_n (v := .ref 61) d_PG_wire_0 rfl (Or.inr ⟨_, rfl⟩) k) ?_
  refine SG.lift (fun _ _ k => G_iload_n d_PG_wire_1 rfl k) ?_
  refine SG.lift (fun _ _ k => G_iload_n d_PG_wire_2 rfl k) ?_
  refine SG.lift (fun _ _ k => G_iload_n d_PG_wire_3 rfl k) ?_
  refine H_virtual (as := [.int (nI 3), .int y, .int z]) (rest := []) (b := 61) d_PG_wire_4 rfl (jw_PG_isOnWire.jo (by decide)) lm_PG_154 ji_PG_isOnWire js_PG_isOnWire (w61 _) rfl rfl rfl (Nat.le_of_ble_eq_true rfl) (by decide) (by decide) (c_PG_isOnWire_3_mgt G v y z h0_m hy_m hv) (fun r u1 hq => ?_)
  obtain ⟨hr, hv2, hm3⟩ := hq
  rw [hr]
  clear hr r
  have hm4 := hm.go hm3 (by intro i hi; simp only [List.mem_cons, List.not_mem_nil, or_false] at hi ⊢ <;> omega)
  show SG ZX G mt_PG_wire 7 [(0, .ref 61), (1, .int (nI 3)), (2, .int y), (3, .int z)] [.int (nI 0)] u1 0 0 _
  refine H_if_neN d_PG_wire_7 rfl (by omega) (fun c => by first | exact absurd c (by omega) | exact c.elim | exact absurd c (by decide) | exact absurd (by assumption) c | exact absurd c (by assumption) | exact absurd c (Int32.not_le.mpr (by assumption))) (fun _ => ?_)
  exact H_throw rfl d_PG_wire_10 d_PG_wire_13 d_PG_wire_14 d_PG_wire_17 th_cl th_in (by decide) (Nat.le_of_ble_eq_true rfl) (by decide) (by decide) (hQ _ hv2 hm4)
set_option maxRecDepth 100000 in
set_option maxHeartbeats 4000000 in
theorem t_PG_key_3_lt (G : GX) (hNT : G.1.stackTraces = false) (v : Nat → Int32) (y : Int32) (z : Int32) (hy : y < 0) (hv : okv v) : CSx G mt_PG_key [.ref 61, .int (nI 3), .int y, .int z] v (fun _ v' => okv v' ∧ mdf [] v v') := by
  refine CSx.of hNT (by decide) (Nat.le_of_ble_eq_true rfl) ?_
  generalize hQe : (fun (_ : Option Value) (v' : Nat → Int32) => okv v' ∧ mdf [] v v') = Q
  have hQ : ∀ u, okv u → mdf [] v u → Q none u := by rw [← hQe]; exact fun u h1 h2 => ⟨h1, h2⟩
  clear hQe
  have hm : mdf [] v v := mdf.rf
  show SG ZX G mt_PG_key 0 [(0, .ref 61), (1, .int (nI 3)), (2, .int y), (3, .int z)] [] v 0 0 Q
  refine SG.lift (fun _ _ k => G_iload_n d_PG_key_0 rfl k) ?_
  refine H_static (as := [.int (nI 3)]) (rest := []) d_PG_key_1 rfl (jw_PG_isSession.jo (by decide)) lm_PG_133 jt_PG_isSession rfl (Nat.le_of_ble_eq_true rfl) (by decide) (by decide) (c_PG_isSession G v 3 (by omega)) (fun r v' hq => ?_)
  rw [hq.1, hq.2]
  clear hq r v'
  show SG ZX G mt_PG_key 4 [(0, .ref 61), (1, .int (nI 3)), (2, .int y), (3, .int z)] [.int (nI 1)] v 0 0 _
  refine H_if_eqN d_PG_key_4 rfl (by omega) (fun c => by first | exact absurd c (by omega) | exact c.elim | exact absurd c (by decide) | exact absurd (by assumption) c | exact absurd c (by assumption) | exact absurd c (Int32.not_le.mpr (by assumption))) (fun _ => ?_)
  refine SG.lift (fun _ _ k => G_iload_n d_PG_key_7 rfl k) ?_
  refine H_if_lt d_PG_key_8 rfl (fun _ => ?_) (fun c => by first | exact absurd c (by omega) | exact c.elim | exact absurd c (by decide) | exact absurd (by assumption) c | exact absurd c (by assumption) | exact absurd c (Int32.not_le.mpr (by assumption)))
  exact H_throw rfl d_PG_key_34 d_PG_key_37 d_PG_key_38 d_PG_key_41 th_cl th_in (by decide) (Nat.le_of_ble_eq_true rfl) (by decide) (by decide) (hQ _ hv hm)
set_option maxRecDepth 100000 in
set_option maxHeartbeats 4000000 in
theorem t_PG_key_3_gt (G : GX) (hNT : G.1.stackTraces = false) (v : Nat → Int32) (y : Int32) (z : Int32) (h0 : ¬ y < 0) (hy : nI 2 < y) (hv : okv v) : CSx G mt_PG_key [.ref 61, .int (nI 3), .int y, .int z] v (fun _ v' => okv v' ∧ mdf [] v v') := by
  refine CSx.of hNT (by decide) (Nat.le_of_ble_eq_true rfl) ?_
  generalize hQe : (fun (_ : Option Value) (v' : Nat → Int32) => okv v' ∧ mdf [] v v') = Q
  have hQ : ∀ u, okv u → mdf [] v u → Q none u := by rw [← hQe]; exact fun u h1 h2 => ⟨h1, h2⟩
  clear hQe
  have hm : mdf [] v v := mdf.rf
  show SG ZX G mt_PG_key 0 [(0, .ref 61), (1, .int (nI 3)), (2, .int y), (3, .int z)] [] v 0 0 Q
  refine SG.lift (fun _ _ k => G_iload_n d_PG_key_0 rfl k) ?_
  refine H_static (as := [.int (nI 3)]) (rest := []) d_PG_key_1 rfl (jw_PG_isSession.jo (by decide)) lm_PG_133 jt_PG_isSession rfl (Nat.le_of_ble_eq_true rfl) (by decide) (by decide) (c_PG_isSession G v 3 (by omega)) (fun r v' hq => ?_)
  rw [hq.1, hq.2]
  clear hq r v'
  show SG ZX G mt_PG_key 4 [(0, .ref 61), (1, .int (nI 3)), (2, .int y), (3, .int z)] [.int (nI 1)] v 0 0 _
  refine H_if_eqN d_PG_key_4 rfl (by omega) (fun c => by first | exact absurd c (by omega) | exact c.elim | exact absurd c (by decide) | exact absurd (by assumption) c | exact absurd c (by assumption) | exact absurd c (Int32.not_le.mpr (by assumption))) (fun _ => ?_)
  refine SG.lift (fun _ _ k => G_iload_n d_PG_key_7 rfl k) ?_
  refine H_if_lt d_PG_key_8 rfl (fun c => by first | exact absurd c (by omega) | exact c.elim | exact absurd c (by decide) | exact absurd (by assumption) c | exact absurd c (by assumption) | exact absurd c (Int32.not_le.mpr (by assumption))) (fun _ => ?_)
  refine SG.lift (fun _ _ k => G_iload_n d_PG_key_11 rfl k) ?_
  refine SG.lift (fun _ _ k => G_iconst (v := nI 2) d_PG_key_12 (by decide) k) ?_
  refine H_icmp_gt d_PG_key_13 rfl (fun _ => ?_) (fun c => by first | exact absurd c (by omega) | exact c.elim | exact absurd c (by decide) | exact absurd (by assumption) c | exact absurd c (by assumption) | exact absurd c (Int32.not_le.mpr (by assumption)))
  exact H_throw rfl d_PG_key_34 d_PG_key_37 d_PG_key_38 d_PG_key_41 th_cl th_in (by decide) (Nat.le_of_ble_eq_true rfl) (by decide) (by decide) (hQ _ hv hm)
set_option maxRecDepth 100000 in
set_option maxHeartbeats 4000000 in
theorem t_PG_wire_3_1_neg (G : GX) (hNT : G.1.stackTraces = false) (v : Nat → Int32) (z : Int32) (hz_n : z < 0) (hv : okv v) : CSx G mt_PG_wire [.ref 61, .int (nI 3), .int (nI 1), .int z] v (fun _ v' => okv v' ∧ mdf [] v v') := by
  refine CSx.of hNT (by decide) (Nat.le_of_ble_eq_true rfl) ?_
  generalize hQe : (fun (_ : Option Value) (v' : Nat → Int32) => okv v' ∧ mdf [] v v') = Q
  have hQ : ∀ u, okv u → mdf [] v u → Q none u := by rw [← hQe]; exact fun u h1 h2 => ⟨h1, h2⟩
  clear hQe
  have hm : mdf [] v v := mdf.rf
  show SG ZX G mt_PG_wire 0 [(0, .ref 61), (1, .int (nI 3)), (2, .int (nI 1)), (3, .int z)] [] v 0 0 Q
  refine SG.lift (fun _ _ k => G_aload_n (v := .ref 61) d_PG_wire_0 rfl (Or.inr ⟨_, rfl⟩) k) ?_
  refine SG.lift (fun _ _ k => G_iload_n d_PG_wire_1 rfl k) ?_
  refine SG.lift (fun _ _ k => G_iload_n d_PG_wire_2 rfl k) ?_
  refine SG.lift (fun _ _ k => G_iload_n d_PG_wire_3 rfl k) ?_
  refine H_virtual (as := [.int (nI 3), .int (nI 1), .int z]) (rest := []) (b := 61) d_PG_wire_4 rfl (jw_PG_isOnWire.jo (by decide)) lm_PG_154 ji_PG_isOnWire js_PG_isOnWire (w61 _) rfl rfl rfl (Nat.le_of_ble_eq_true rfl) (by decide) (by decide) (c_PG_isOnWire_3_1_neg G v z hz_n hv) (fun r u1 hq => ?_)
  obtain ⟨hr, hv2, hm3⟩ := hq
  rw [hr]
  clear hr r
  have hm4 := hm.go hm3 (by intro i hi; simp only [List.mem_cons, List.not_mem_nil, or_false] at hi ⊢ <;> omega)
  show SG ZX G mt_PG_wire 7 [(0, .ref 61), (1, .int (nI 3)), (2, .int (nI 1)), (3, .int z)] [.int (nI 0)] u1 0 0 _
  refine H_if_neN d_PG_wire_7 rfl (by omega) (fun c => by first | exact absurd c (by omega) | exact c.elim | exact absurd c (by decide) | exact absurd (by assumption) c | exact absurd c (by assumption) | exact absurd c (Int32.not_le.mpr (by assumption))) (fun _ => ?_)
  exact H_throw rfl d_PG_wire_10 d_PG_wire_13 d_PG_wire_14 d_PG_wire_17 th_cl th_in (by decide) (Nat.le_of_ble_eq_true rfl) (by decide) (by decide) (hQ _ hv2 hm4)
set_option maxRecDepth 100000 in
set_option maxHeartbeats 4000000 in
theorem t_PG_wire_3_1_out (G : GX) (hNT : G.1.stackTraces = false) (v : Nat → Int32) (i : Nat) (b_i : i < 2147483648) (k : Nat) (e58 : v 58 = nI k) (hk : k ≤ i ∧ k ≤ 96) (hv : okv v) : CSx G mt_PG_wire [.ref 61, .int (nI 3), .int (nI 1), .int (nI i)] v (fun _ v' => okv v' ∧ mdf [] v v') := by
  refine CSx.of hNT (by decide) (Nat.le_of_ble_eq_true rfl) ?_
  generalize hQe : (fun (_ : Option Value) (v' : Nat → Int32) => okv v' ∧ mdf [] v v') = Q
  have hQ : ∀ u, okv u → mdf [] v u → Q none u := by rw [← hQe]; exact fun u h1 h2 => ⟨h1, h2⟩
  clear hQe
  have hm : mdf [] v v := mdf.rf
  show SG ZX G mt_PG_wire 0 [(0, .ref 61), (1, .int (nI 3)), (2, .int (nI 1)), (3, .int (nI i))] [] v 0 0 Q
  refine SG.lift (fun _ _ k => G_aload_n (v := .ref 61) d_PG_wire_0 rfl (Or.inr ⟨_, rfl⟩) k) ?_
  refine SG.lift (fun _ _ k => G_iload_n d_PG_wire_1 rfl k) ?_
  refine SG.lift (fun _ _ k => G_iload_n d_PG_wire_2 rfl k) ?_
  refine SG.lift (fun _ _ k => G_iload_n d_PG_wire_3 rfl k) ?_
  refine H_virtual (as := [.int (nI 3), .int (nI 1), .int (nI i)]) (rest := []) (b := 61) d_PG_wire_4 rfl (jw_PG_isOnWire.jo (by decide)) lm_PG_154 ji_PG_isOnWire js_PG_isOnWire (w61 _) rfl rfl rfl (Nat.le_of_ble_eq_true rfl) (by decide) (by decide) (c_PG_isOnWire_3_1_out G v i (by omega) k e58 (by omega) hv) (fun r u1 hq => ?_)
  obtain ⟨hr, hv2, hm3, fe0_u1⟩ := hq
  rw [hr]
  clear hr r
  have hm4 := hm.go hm3 (by intro i hi; simp only [List.mem_cons, List.not_mem_nil, or_false] at hi ⊢ <;> omega)
  have e5 : u1 58 = nI k := (hm3 58 (by decide)).trans e58
  show SG ZX G mt_PG_wire 7 [(0, .ref 61), (1, .int (nI 3)), (2, .int (nI 1)), (3, .int (nI i))] [.int (nI 0)] u1 0 0 _
  refine H_if_neN d_PG_wire_7 rfl (by omega) (fun c => by first | exact absurd c (by omega) | exact c.elim | exact absurd c (by decide) | exact absurd (by assumption) c | exact absurd c (by assumption) | exact absurd c (Int32.not_le.mpr (by assumption))) (fun _ => ?_)
  exact H_throw rfl d_PG_wire_10 d_PG_wire_13 d_PG_wire_14 d_PG_wire_17 th_cl th_in (by decide) (Nat.le_of_ble_eq_true rfl) (by decide) (by decide) (hQ _ hv2 hm4)
set_option maxRecDepth 100000 in
set_option maxHeartbeats 4000000 in
theorem t_PG_wire_3_2_neg (G : GX) (hNT : G.1.stackTraces = false) (v : Nat → Int32) (z : Int32) (hz_n : z < 0) (hv : okv v) : CSx G mt_PG_wire [.ref 61, .int (nI 3), .int (nI 2), .int z] v (fun _ v' => okv v' ∧ mdf [] v v') := by
  refine CSx.of hNT (by decide) (Nat.le_of_ble_eq_true rfl) ?_
  generalize hQe : (fun (_ : Option Value) (v' : Nat → Int32) => okv v' ∧ mdf [] v v') = Q
  have hQ : ∀ u, okv u → mdf [] v u → Q none u := by rw [← hQe]; exact fun u h1 h2 => ⟨h1, h2⟩
  clear hQe
  have hm : mdf [] v v := mdf.rf
  show SG ZX G mt_PG_wire 0 [(0, .ref 61), (1, .int (nI 3)), (2, .int (nI 2)), (3, .int z)] [] v 0 0 Q
  refine SG.lift (fun _ _ k => G_aload_n (v := .ref 61) d_PG_wire_0 rfl (Or.inr ⟨_, rfl⟩) k) ?_
  refine SG.lift (fun _ _ k => G_iload_n d_PG_wire_1 rfl k) ?_
  refine SG.lift (fun _ _ k => G_iload_n d_PG_wire_2 rfl k) ?_
  refine SG.lift (fun _ _ k => G_iload_n d_PG_wire_3 rfl k) ?_
  refine H_virtual (as := [.int (nI 3), .int (nI 2), .int z]) (rest := []) (b := 61) d_PG_wire_4 rfl (jw_PG_isOnWire.jo (by decide)) lm_PG_154 ji_PG_isOnWire js_PG_isOnWire (w61 _) rfl rfl rfl (Nat.le_of_ble_eq_true rfl) (by decide) (by decide) (c_PG_isOnWire_3_2_neg G v z hz_n hv) (fun r u1 hq => ?_)
  obtain ⟨hr, hv2, hm3⟩ := hq
  rw [hr]
  clear hr r
  have hm4 := hm.go hm3 (by intro i hi; simp only [List.mem_cons, List.not_mem_nil, or_false] at hi ⊢ <;> omega)
  show SG ZX G mt_PG_wire 7 [(0, .ref 61), (1, .int (nI 3)), (2, .int (nI 2)), (3, .int z)] [.int (nI 0)] u1 0 0 _
  refine H_if_neN d_PG_wire_7 rfl (by omega) (fun c => by first | exact absurd c (by omega) | exact c.elim | exact absurd c (by decide) | exact absurd (by assumption) c | exact absurd c (by assumption) | exact absurd c (Int32.not_le.mpr (by assumption))) (fun _ => ?_)
  exact H_throw rfl d_PG_wire_10 d_PG_wire_13 d_PG_wire_14 d_PG_wire_17 th_cl th_in (by decide) (Nat.le_of_ble_eq_true rfl) (by decide) (by decide) (hQ _ hv2 hm4)
set_option maxRecDepth 100000 in
set_option maxHeartbeats 4000000 in
theorem t_PG_wire_3_2_out (G : GX) (hNT : G.1.stackTraces = false) (v : Nat → Int32) (i : Nat) (b_i : i < 2147483648) (k : Nat) (e59 : v 59 = nI k) (hk : k ≤ i ∧ k ≤ 320) (hv : okv v) : CSx G mt_PG_wire [.ref 61, .int (nI 3), .int (nI 2), .int (nI i)] v (fun _ v' => okv v' ∧ mdf [] v v') := by
  refine CSx.of hNT (by decide) (Nat.le_of_ble_eq_true rfl) ?_
  generalize hQe : (fun (_ : Option Value) (v' : Nat → Int32) => okv v' ∧ mdf [] v v') = Q
  have hQ : ∀ u, okv u → mdf [] v u → Q none u := by rw [← hQe]; exact fun u h1 h2 => ⟨h1, h2⟩
  clear hQe
  have hm : mdf [] v v := mdf.rf
  show SG ZX G mt_PG_wire 0 [(0, .ref 61), (1, .int (nI 3)), (2, .int (nI 2)), (3, .int (nI i))] [] v 0 0 Q
  refine SG.lift (fun _ _ k => G_aload_n (v := .ref 61) d_PG_wire_0 rfl (Or.inr ⟨_, rfl⟩) k) ?_
  refine SG.lift (fun _ _ k => G_iload_n d_PG_wire_1 rfl k) ?_
  refine SG.lift (fun _ _ k => G_iload_n d_PG_wire_2 rfl k) ?_
  refine SG.lift (fun _ _ k => G_iload_n d_PG_wire_3 rfl k) ?_
  refine H_virtual (as := [.int (nI 3), .int (nI 2), .int (nI i)]) (rest := []) (b := 61) d_PG_wire_4 rfl (jw_PG_isOnWire.jo (by decide)) lm_PG_154 ji_PG_isOnWire js_PG_isOnWire (w61 _) rfl rfl rfl (Nat.le_of_ble_eq_true rfl) (by decide) (by decide) (c_PG_isOnWire_3_2_out G v i (by omega) k e59 (by omega) hv) (fun r u1 hq => ?_)
  obtain ⟨hr, hv2, hm3, fe0_u1⟩ := hq
  rw [hr]
  clear hr r
  have hm4 := hm.go hm3 (by intro i hi; simp only [List.mem_cons, List.not_mem_nil, or_false] at hi ⊢ <;> omega)
  have e5 : u1 59 = nI k := (hm3 59 (by decide)).trans e59
  show SG ZX G mt_PG_wire 7 [(0, .ref 61), (1, .int (nI 3)), (2, .int (nI 2)), (3, .int (nI i))] [.int (nI 0)] u1 0 0 _
  refine H_if_neN d_PG_wire_7 rfl (by omega) (fun c => by first | exact absurd c (by omega) | exact c.elim | exact absurd c (by decide) | exact absurd (by assumption) c | exact absurd c (by assumption) | exact absurd c (Int32.not_le.mpr (by assumption))) (fun _ => ?_)
  exact H_throw rfl d_PG_wire_10 d_PG_wire_13 d_PG_wire_14 d_PG_wire_17 th_cl th_in (by decide) (Nat.le_of_ble_eq_true rfl) (by decide) (by decide) (hQ _ hv2 hm4)
set_option maxRecDepth 100000 in
set_option maxHeartbeats 4000000 in
theorem t_PG_wire_3_3_neg (G : GX) (hNT : G.1.stackTraces = false) (v : Nat → Int32) (z : Int32) (hz_n : z < 0) (hv : okv v) : CSx G mt_PG_wire [.ref 61, .int (nI 3), .int (nI 3), .int z] v (fun _ v' => okv v' ∧ mdf [] v v') := by
  refine CSx.of hNT (by decide) (Nat.le_of_ble_eq_true rfl) ?_
  generalize hQe : (fun (_ : Option Value) (v' : Nat → Int32) => okv v' ∧ mdf [] v v') = Q
  have hQ : ∀ u, okv u → mdf [] v u → Q none u := by rw [← hQe]; exact fun u h1 h2 => ⟨h1, h2⟩
  clear hQe
  have hm : mdf [] v v := mdf.rf
  show SG ZX G mt_PG_wire 0 [(0, .ref 61), (1, .int (nI 3)), (2, .int (nI 3)), (3, .int z)] [] v 0 0 Q
  refine SG.lift (fun _ _ k => G_aload_n (v := .ref 61) d_PG_wire_0 rfl (Or.inr ⟨_, rfl⟩) k) ?_
  refine SG.lift (fun _ _ k => G_iload_n d_PG_wire_1 rfl k) ?_
  refine SG.lift (fun _ _ k => G_iload_n d_PG_wire_2 rfl k) ?_
  refine SG.lift (fun _ _ k => G_iload_n d_PG_wire_3 rfl k) ?_
  refine H_virtual (as := [.int (nI 3), .int (nI 3), .int z]) (rest := []) (b := 61) d_PG_wire_4 rfl (jw_PG_isOnWire.jo (by decide)) lm_PG_154 ji_PG_isOnWire js_PG_isOnWire (w61 _) rfl rfl rfl (Nat.le_of_ble_eq_true rfl) (by decide) (by decide) (c_PG_isOnWire_3_3_neg G v z hz_n hv) (fun r u1 hq => ?_)
  obtain ⟨hr, hv2, hm3⟩ := hq
  rw [hr]
  clear hr r
  have hm4 := hm.go hm3 (by intro i hi; simp only [List.mem_cons, List.not_mem_nil, or_false] at hi ⊢ <;> omega)
  show SG ZX G mt_PG_wire 7 [(0, .ref 61), (1, .int (nI 3)), (2, .int (nI 3)), (3, .int z)] [.int (nI 0)] u1 0 0 _
  refine H_if_neN d_PG_wire_7 rfl (by omega) (fun c => by first | exact absurd c (by omega) | exact c.elim | exact absurd c (by decide) | exact absurd (by assumption) c | exact absurd c (by assumption) | exact absurd c (Int32.not_le.mpr (by assumption))) (fun _ => ?_)
  exact H_throw rfl d_PG_wire_10 d_PG_wire_13 d_PG_wire_14 d_PG_wire_17 th_cl th_in (by decide) (Nat.le_of_ble_eq_true rfl) (by decide) (by decide) (hQ _ hv2 hm4)
set_option maxRecDepth 100000 in
set_option maxHeartbeats 4000000 in
theorem t_PG_wire_3_3_out (G : GX) (hNT : G.1.stackTraces = false) (v : Nat → Int32) (i : Nat) (b_i : i < 2147483648) (k : Nat) (e60 : v 60 = nI k) (hk : k ≤ i ∧ k ≤ 64) (hv : okv v) : CSx G mt_PG_wire [.ref 61, .int (nI 3), .int (nI 3), .int (nI i)] v (fun _ v' => okv v' ∧ mdf [] v v') := by
  refine CSx.of hNT (by decide) (Nat.le_of_ble_eq_true rfl) ?_
  generalize hQe : (fun (_ : Option Value) (v' : Nat → Int32) => okv v' ∧ mdf [] v v') = Q
  have hQ : ∀ u, okv u → mdf [] v u → Q none u := by rw [← hQe]; exact fun u h1 h2 => ⟨h1, h2⟩
  clear hQe
  have hm : mdf [] v v := mdf.rf
  show SG ZX G mt_PG_wire 0 [(0, .ref 61), (1, .int (nI 3)), (2, .int (nI 3)), (3, .int (nI i))] [] v 0 0 Q
  refine SG.lift (fun _ _ k => G_aload_n (v := .ref 61) d_PG_wire_0 rfl (Or.inr ⟨_, rfl⟩) k) ?_
  refine SG.lift (fun _ _ k => G_iload_n d_PG_wire_1 rfl k) ?_
  refine SG.lift (fun _ _ k => G_iload_n d_PG_wire_2 rfl k) ?_
  refine SG.lift (fun _ _ k => G_iload_n d_PG_wire_3 rfl k) ?_
  refine H_virtual (as := [.int (nI 3), .int (nI 3), .int (nI i)]) (rest := []) (b := 61) d_PG_wire_4 rfl (jw_PG_isOnWire.jo (by decide)) lm_PG_154 ji_PG_isOnWire js_PG_isOnWire (w61 _) rfl rfl rfl (Nat.le_of_ble_eq_true rfl) (by decide) (by decide) (c_PG_isOnWire_3_3_out G v i (by omega) k e60 (by omega) hv) (fun r u1 hq => ?_)
  obtain ⟨hr, hv2, hm3, fe0_u1⟩ := hq
  rw [hr]
  clear hr r
  have hm4 := hm.go hm3 (by intro i hi; simp only [List.mem_cons, List.not_mem_nil, or_false] at hi ⊢ <;> omega)
  have e5 : u1 60 = nI k := (hm3 60 (by decide)).trans e60
  show SG ZX G mt_PG_wire 7 [(0, .ref 61), (1, .int (nI 3)), (2, .int (nI 3)), (3, .int (nI i))] [.int (nI 0)] u1 0 0 _
  refine H_if_neN d_PG_wire_7 rfl (by omega) (fun c => by first | exact absurd c (by omega) | exact c.elim | exact absurd c (by decide) | exact absurd (by assumption) c | exact absurd c (by assumption) | exact absurd c (Int32.not_le.mpr (by assumption))) (fun _ => ?_)
  exact H_throw rfl d_PG_wire_10 d_PG_wire_13 d_PG_wire_14 d_PG_wire_17 th_cl th_in (by decide) (Nat.le_of_ble_eq_true rfl) (by decide) (by decide) (hQ _ hv2 hm4)
set_option maxRecDepth 100000 in
set_option maxHeartbeats 4000000 in
theorem t_PG_key_3_0_neg (G : GX) (hNT : G.1.stackTraces = false) (v : Nat → Int32) (z : Int32) (hz_n : z < 0) (hv : okv v) : CSx G mt_PG_key [.ref 61, .int (nI 3), .int (nI 0), .int z] v (fun _ v' => okv v' ∧ mdf [] v v') := by
  refine CSx.of hNT (by decide) (Nat.le_of_ble_eq_true rfl) ?_
  generalize hQe : (fun (_ : Option Value) (v' : Nat → Int32) => okv v' ∧ mdf [] v v') = Q
  have hQ : ∀ u, okv u → mdf [] v u → Q none u := by rw [← hQe]; exact fun u h1 h2 => ⟨h1, h2⟩
  clear hQe
  have hm : mdf [] v v := mdf.rf
  show SG ZX G mt_PG_key 0 [(0, .ref 61), (1, .int (nI 3)), (2, .int (nI 0)), (3, .int z)] [] v 0 0 Q
  refine SG.lift (fun _ _ k => G_iload_n d_PG_key_0 rfl k) ?_
  refine H_static (as := [.int (nI 3)]) (rest := []) d_PG_key_1 rfl (jw_PG_isSession.jo (by decide)) lm_PG_133 jt_PG_isSession rfl (Nat.le_of_ble_eq_true rfl) (by decide) (by decide) (c_PG_isSession G v 3 (by omega)) (fun r v' hq => ?_)
  rw [hq.1, hq.2]
  clear hq r v'
  show SG ZX G mt_PG_key 4 [(0, .ref 61), (1, .int (nI 3)), (2, .int (nI 0)), (3, .int z)] [.int (nI 1)] v 0 0 _
  refine H_if_eqN d_PG_key_4 rfl (by omega) (fun c => by first | exact absurd c (by omega) | exact c.elim | exact absurd c (by decide) | exact absurd (by assumption) c | exact absurd c (by assumption) | exact absurd c (Int32.not_le.mpr (by assumption))) (fun _ => ?_)
  refine SG.lift (fun _ _ k => G_iload_n d_PG_key_7 rfl k) ?_
  refine H_if_ltN d_PG_key_8 rfl (by omega) (fun c => by first | exact absurd c (by omega) | exact c.elim | exact absurd c (by decide) | exact absurd (by assumption) c | exact absurd c (by assumption) | exact absurd c (Int32.not_le.mpr (by assumption))) (fun _ => ?_)
  refine SG.lift (fun _ _ k => G_iload_n d_PG_key_11 rfl k) ?_
  refine SG.lift (fun _ _ k => G_iconst (v := nI 2) d_PG_key_12 (by decide) k) ?_
  refine H_icmp_gtN d_PG_key_13 rfl (by omega) (by omega) (fun c => by first | exact absurd c (by omega) | exact c.elim | exact absurd c (by decide) | exact absurd (by assumption) c | exact absurd c (by assumption) | exact absurd c (Int32.not_le.mpr (by assumption))) (fun _ => ?_)
  refine SG.lift (fun _ _ k => G_aload_n (v := .ref 61) d_PG_key_16 rfl (Or.inr ⟨_, rfl⟩) k) ?_
  refine H_getfield d_PG_key_17 fg_PG_34 (w61 _) rfl ?_
  refine SG.lift (fun _ _ k => G_iload_n d_PG_key_20 rfl k) ?_
  refine H_aaload (C0 := "PasswordGate$Session") d_PG_key_21 (by decide) (w264 _) rfl (vp_in_nI (by omega) (by omega)) ?_
  refine H_getfield d_PG_key_22 fg_PG_162 (w343 _) rfl ?_
  refine SG.lift (fun _ _ k => G_iload_n d_PG_key_25 rfl k) ?_
  refine H_aaload (C0 := "PasswordGate$Bytes") d_PG_key_26 (by decide) (w345 _) rfl (vp_in_nI (by omega) (by omega)) ?_
  refine SG.lift (fun _ _ k => G_iload_n d_PG_key_27 rfl k) ?_
  refine H_virtual (as := [.int z]) (rest := []) (b := 363) d_PG_key_28 rfl (jw_By_has.jo (by decide)) lm_PG_119 ji_By_has js_By_has (w363 _) rfl rfl rfl (Nat.le_of_ble_eq_true rfl) (by decide) (by decide) (c_By_has_neg G v 363 364 64 61 ⟨w363, a364, by decide, u363_1, by decide, by decide⟩ z hz_n hv) (fun r u1 hq => ?_)
  obtain ⟨hr, hv2, hm3⟩ := hq
  rw [hr]
  clear hr r
  have hm4 := hm.go hm3 (by intro i hi; simp only [List.mem_cons, List.not_mem_nil, or_false] at hi ⊢ <;> omega)
  show SG ZX G mt_PG_key 31 [(0, .ref 61), (1, .int (nI 3)), (2, .int (nI 0)), (3, .int z)] [.int (nI 0)] u1 0 0 _
  refine H_if_neN d_PG_key_31 rfl (by omega) (fun c => by first | exact absurd c (by omega) | exact c.elim | exact absurd c (by decide) | exact absurd (by assumption) c | exact absurd c (by assumption) | exact absurd c (Int32.not_le.mpr (by assumption))) (fun _ => ?_)
  exact H_throw rfl d_PG_key_34 d_PG_key_37 d_PG_key_38 d_PG_key_41 th_cl th_in (by decide) (Nat.le_of_ble_eq_true rfl) (by decide) (by decide) (hQ _ hv2 hm4)
set_option maxRecDepth 100000 in
set_option maxHeartbeats 4000000 in
theorem t_PG_key_3_0_out (G : GX) (hNT : G.1.stackTraces = false) (v : Nat → Int32) (i : Nat) (b_i : i < 2147483648) (k : Nat) (e61 : v 61 = nI k) (hk : k ≤ i ∧ k ≤ 64) (hv : okv v) : CSx G mt_PG_key [.ref 61, .int (nI 3), .int (nI 0), .int (nI i)] v (fun _ v' => okv v' ∧ mdf [] v v') := by
  refine CSx.of hNT (by decide) (Nat.le_of_ble_eq_true rfl) ?_
  generalize hQe : (fun (_ : Option Value) (v' : Nat → Int32) => okv v' ∧ mdf [] v v') = Q
  have hQ : ∀ u, okv u → mdf [] v u → Q none u := by rw [← hQe]; exact fun u h1 h2 => ⟨h1, h2⟩
  clear hQe
  have hm : mdf [] v v := mdf.rf
  show SG ZX G mt_PG_key 0 [(0, .ref 61), (1, .int (nI 3)), (2, .int (nI 0)), (3, .int (nI i))] [] v 0 0 Q
  refine SG.lift (fun _ _ k => G_iload_n d_PG_key_0 rfl k) ?_
  refine H_static (as := [.int (nI 3)]) (rest := []) d_PG_key_1 rfl (jw_PG_isSession.jo (by decide)) lm_PG_133 jt_PG_isSession rfl (Nat.le_of_ble_eq_true rfl) (by decide) (by decide) (c_PG_isSession G v 3 (by omega)) (fun r v' hq => ?_)
  rw [hq.1, hq.2]
  clear hq r v'
  show SG ZX G mt_PG_key 4 [(0, .ref 61), (1, .int (nI 3)), (2, .int (nI 0)), (3, .int (nI i))] [.int (nI 1)] v 0 0 _
  refine H_if_eqN d_PG_key_4 rfl (by omega) (fun c => by first | exact absurd c (by omega) | exact c.elim | exact absurd c (by decide) | exact absurd (by assumption) c | exact absurd c (by assumption) | exact absurd c (Int32.not_le.mpr (by assumption))) (fun _ => ?_)
  refine SG.lift (fun _ _ k => G_iload_n d_PG_key_7 rfl k) ?_
  refine H_if_ltN d_PG_key_8 rfl (by omega) (fun c => by first | exact absurd c (by omega) | exact c.elim | exact absurd c (by decide) | exact absurd (by assumption) c | exact absurd c (by assumption) | exact absurd c (Int32.not_le.mpr (by assumption))) (fun _ => ?_)
  refine SG.lift (fun _ _ k => G_iload_n d_PG_key_11 rfl k) ?_
  refine SG.lift (fun _ _ k => G_iconst (v := nI 2) d_PG_key_12 (by decide) k) ?_
  refine H_icmp_gtN d_PG_key_13 rfl (by omega) (by omega) (fun c => by first | exact absurd c (by omega) | exact c.elim | exact absurd c (by decide) | exact absurd (by assumption) c | exact absurd c (by assumption) | exact absurd c (Int32.not_le.mpr (by assumption))) (fun _ => ?_)
  refine SG.lift (fun _ _ k => G_aload_n (v := .ref 61) d_PG_key_16 rfl (Or.inr ⟨_, rfl⟩) k) ?_
  refine H_getfield d_PG_key_17 fg_PG_34 (w61 _) rfl ?_
  refine SG.lift (fun _ _ k => G_iload_n d_PG_key_20 rfl k) ?_
  refine H_aaload (C0 := "PasswordGate$Session") d_PG_key_21 (by decide) (w264 _) rfl (vp_in_nI (by omega) (by omega)) ?_
  refine H_getfield d_PG_key_22 fg_PG_162 (w343 _) rfl ?_
  refine SG.lift (fun _ _ k => G_iload_n d_PG_key_25 rfl k) ?_
  refine H_aaload (C0 := "PasswordGate$Bytes") d_PG_key_26 (by decide) (w345 _) rfl (vp_in_nI (by omega) (by omega)) ?_
  refine SG.lift (fun _ _ k => G_iload_n d_PG_key_27 rfl k) ?_
  refine H_virtual (as := [.int (nI i)]) (rest := []) (b := 363) d_PG_key_28 rfl (jw_By_has.jo (by decide)) lm_PG_119 ji_By_has js_By_has (w363 _) rfl rfl rfl (Nat.le_of_ble_eq_true rfl) (by decide) (by decide) (c_By_has_out G v 363 364 64 61 ⟨w363, a364, by decide, u363_1, by decide, by decide⟩ i (by omega) k e61 (by omega) hv) (fun r u1 hq => ?_)
  obtain ⟨hr, hv2, hm3, fe0_u1⟩ := hq
  rw [hr]
  clear hr r
  have hm4 := hm.go hm3 (by intro i hi; simp only [List.mem_cons, List.not_mem_nil, or_false] at hi ⊢ <;> omega)
  have e5 : u1 61 = nI k := (hm3 61 (by decide)).trans e61
  show SG ZX G mt_PG_key 31 [(0, .ref 61), (1, .int (nI 3)), (2, .int (nI 0)), (3, .int (nI i))] [.int (nI 0)] u1 0 0 _
  refine H_if_neN d_PG_key_31 rfl (by omega) (fun c => by first | exact absurd c (by omega) | exact c.elim | exact absurd c (by decide) | exact absurd (by assumption) c | exact absurd c (by assumption) | exact absurd c (Int32.not_le.mpr (by assumption))) (fun _ => ?_)
  exact H_throw rfl d_PG_key_34 d_PG_key_37 d_PG_key_38 d_PG_key_41 th_cl th_in (by decide) (Nat.le_of_ble_eq_true rfl) (by decide) (by decide) (hQ _ hv2 hm4)
set_option maxRecDepth 100000 in
set_option maxHeartbeats 4000000 in
theorem t_PG_key_3_1_neg (G : GX) (hNT : G.1.stackTraces = false) (v : Nat → Int32) (z : Int32) (hz_n : z < 0) (hv : okv v) : CSx G mt_PG_key [.ref 61, .int (nI 3), .int (nI 1), .int z] v (fun _ v' => okv v' ∧ mdf [] v v') := by
  refine CSx.of hNT (by decide) (Nat.le_of_ble_eq_true rfl) ?_
  generalize hQe : (fun (_ : Option Value) (v' : Nat → Int32) => okv v' ∧ mdf [] v v') = Q
  have hQ : ∀ u, okv u → mdf [] v u → Q none u := by rw [← hQe]; exact fun u h1 h2 => ⟨h1, h2⟩
  clear hQe
  have hm : mdf [] v v := mdf.rf
  show SG ZX G mt_PG_key 0 [(0, .ref 61), (1, .int (nI 3)), (2, .int (nI 1)), (3, .int z)] [] v 0 0 Q
  refine SG.lift (fun _ _ k => G_iload_n d_PG_key_0 rfl k) ?_
  refine H_static (as := [.int (nI 3)]) (rest := []) d_PG_key_1 rfl (jw_PG_isSession.jo (by decide)) lm_PG_133 jt_PG_isSession rfl (Nat.le_of_ble_eq_true rfl) (by decide) (by decide) (c_PG_isSession G v 3 (by omega)) (fun r v' hq => ?_)
  rw [hq.1, hq.2]
  clear hq r v'
  show SG ZX G mt_PG_key 4 [(0, .ref 61), (1, .int (nI 3)), (2, .int (nI 1)), (3, .int z)] [.int (nI 1)] v 0 0 _
  refine H_if_eqN d_PG_key_4 rfl (by omega) (fun c => by first | exact absurd c (by omega) | exact c.elim | exact absurd c (by decide) | exact absurd (by assumption) c | exact absurd c (by assumption) | exact absurd c (Int32.not_le.mpr (by assumption))) (fun _ => ?_)
  refine SG.lift (fun _ _ k => G_iload_n d_PG_key_7 rfl k) ?_
  refine H_if_ltN d_PG_key_8 rfl (by omega) (fun c => by first | exact absurd c (by omega) | exact c.elim | exact absurd c (by decide) | exact absurd (by assumption) c | exact absurd c (by assumption) | exact absurd c (Int32.not_le.mpr (by assumption))) (fun _ => ?_)
  refine SG.lift (fun _ _ k => G_iload_n d_PG_key_11 rfl k) ?_
  refine SG.lift (fun _ _ k => G_iconst (v := nI 2) d_PG_key_12 (by decide) k) ?_
  refine H_icmp_gtN d_PG_key_13 rfl (by omega) (by omega) (fun c => by first | exact absurd c (by omega) | exact c.elim | exact absurd c (by decide) | exact absurd (by assumption) c | exact absurd c (by assumption) | exact absurd c (Int32.not_le.mpr (by assumption))) (fun _ => ?_)
  refine SG.lift (fun _ _ k => G_aload_n (v := .ref 61) d_PG_key_16 rfl (Or.inr ⟨_, rfl⟩) k) ?_
  refine H_getfield d_PG_key_17 fg_PG_34 (w61 _) rfl ?_
  refine SG.lift (fun _ _ k => G_iload_n d_PG_key_20 rfl k) ?_
  refine H_aaload (C0 := "PasswordGate$Session") d_PG_key_21 (by decide) (w264 _) rfl (vp_in_nI (by omega) (by omega)) ?_
  refine H_getfield d_PG_key_22 fg_PG_162 (w343 _) rfl ?_
  refine SG.lift (fun _ _ k => G_iload_n d_PG_key_25 rfl k) ?_
  refine H_aaload (C0 := "PasswordGate$Bytes") d_PG_key_26 (by decide) (w345 _) rfl (vp_in_nI (by omega) (by omega)) ?_
  refine SG.lift (fun _ _ k => G_iload_n d_PG_key_27 rfl k) ?_
  refine H_virtual (as := [.int z]) (rest := []) (b := 365) d_PG_key_28 rfl (jw_By_has.jo (by decide)) lm_PG_119 ji_By_has js_By_has (w365 _) rfl rfl rfl (Nat.le_of_ble_eq_true rfl) (by decide) (by decide) (c_By_has_neg G v 365 366 64 62 ⟨w365, a366, by decide, u365_1, by decide, by decide⟩ z hz_n hv) (fun r u1 hq => ?_)
  obtain ⟨hr, hv2, hm3⟩ := hq
  rw [hr]
  clear hr r
  have hm4 := hm.go hm3 (by intro i hi; simp only [List.mem_cons, List.not_mem_nil, or_false] at hi ⊢ <;> omega)
  show SG ZX G mt_PG_key 31 [(0, .ref 61), (1, .int (nI 3)), (2, .int (nI 1)), (3, .int z)] [.int (nI 0)] u1 0 0 _
  refine H_if_neN d_PG_key_31 rfl (by omega) (fun c => by first | exact absurd c (by omega) | exact c.elim | exact absurd c (by decide) | exact absurd (by assumption) c | exact absurd c (by assumption) | exact absurd c (Int32.not_le.mpr (by assumption))) (fun _ => ?_)
  exact H_throw rfl d_PG_key_34 d_PG_key_37 d_PG_key_38 d_PG_key_41 th_cl th_in (by decide) (Nat.le_of_ble_eq_true rfl) (by decide) (by decide) (hQ _ hv2 hm4)
set_option maxRecDepth 100000 in
set_option maxHeartbeats 4000000 in
theorem t_PG_key_3_1_out (G : GX) (hNT : G.1.stackTraces = false) (v : Nat → Int32) (i : Nat) (b_i : i < 2147483648) (k : Nat) (e62 : v 62 = nI k) (hk : k ≤ i ∧ k ≤ 64) (hv : okv v) : CSx G mt_PG_key [.ref 61, .int (nI 3), .int (nI 1), .int (nI i)] v (fun _ v' => okv v' ∧ mdf [] v v') := by
  refine CSx.of hNT (by decide) (Nat.le_of_ble_eq_true rfl) ?_
  generalize hQe : (fun (_ : Option Value) (v' : Nat → Int32) => okv v' ∧ mdf [] v v') = Q
  have hQ : ∀ u, okv u → mdf [] v u → Q none u := by rw [← hQe]; exact fun u h1 h2 => ⟨h1, h2⟩
  clear hQe
  have hm : mdf [] v v := mdf.rf
  show SG ZX G mt_PG_key 0 [(0, .ref 61), (1, .int (nI 3)), (2, .int (nI 1)), (3, .int (nI i))] [] v 0 0 Q
  refine SG.lift (fun _ _ k => G_iload_n d_PG_key_0 rfl k) ?_
  refine H_static (as := [.int (nI 3)]) (rest := []) d_PG_key_1 rfl (jw_PG_isSession.jo (by decide)) lm_PG_133 jt_PG_isSession rfl (Nat.le_of_ble_eq_true rfl) (by decide) (by decide) (c_PG_isSession G v 3 (by omega)) (fun r v' hq => ?_)
  rw [hq.1, hq.2]
  clear hq r v'
  show SG ZX G mt_PG_key 4 [(0, .ref 61), (1, .int (nI 3)), (2, .int (nI 1)), (3, .int (nI i))] [.int (nI 1)] v 0 0 _
  refine H_if_eqN d_PG_key_4 rfl (by omega) (fun c => by first | exact absurd c (by omega) | exact c.elim | exact absurd c (by decide) | exact absurd (by assumption) c | exact absurd c (by assumption) | exact absurd c (Int32.not_le.mpr (by assumption))) (fun _ => ?_)
  refine SG.lift (fun _ _ k => G_iload_n d_PG_key_7 rfl k) ?_
  refine H_if_ltN d_PG_key_8 rfl (by omega) (fun c => by first | exact absurd c (by omega) | exact c.elim | exact absurd c (by decide) | exact absurd (by assumption) c | exact absurd c (by assumption) | exact absurd c (Int32.not_le.mpr (by assumption))) (fun _ => ?_)
  refine SG.lift (fun _ _ k => G_iload_n d_PG_key_11 rfl k) ?_
  refine SG.lift (fun _ _ k => G_iconst (v := nI 2) d_PG_key_12 (by decide) k) ?_
  refine H_icmp_gtN d_PG_key_13 rfl (by omega) (by omega) (fun c => by first | exact absurd c (by omega) | exact c.elim | exact absurd c (by decide) | exact absurd (by assumption) c | exact absurd c (by assumption) | exact absurd c (Int32.not_le.mpr (by assumption))) (fun _ => ?_)
  refine SG.lift (fun _ _ k => G_aload_n (v := .ref 61) d_PG_key_16 rfl (Or.inr ⟨_, rfl⟩) k) ?_
  refine H_getfield d_PG_key_17 fg_PG_34 (w61 _) rfl ?_
  refine SG.lift (fun _ _ k => G_iload_n d_PG_key_20 rfl k) ?_
  refine H_aaload (C0 := "PasswordGate$Session") d_PG_key_21 (by decide) (w264 _) rfl (vp_in_nI (by omega) (by omega)) ?_
  refine H_getfield d_PG_key_22 fg_PG_162 (w343 _) rfl ?_
  refine SG.lift (fun _ _ k => G_iload_n d_PG_key_25 rfl k) ?_
  refine H_aaload (C0 := "PasswordGate$Bytes") d_PG_key_26 (by decide) (w345 _) rfl (vp_in_nI (by omega) (by omega)) ?_
  refine SG.lift (fun _ _ k => G_iload_n d_PG_key_27 rfl k) ?_
  refine H_virtual (as := [.int (nI i)]) (rest := []) (b := 365) d_PG_key_28 rfl (jw_By_has.jo (by decide)) lm_PG_119 ji_By_has js_By_has (w365 _) rfl rfl rfl (Nat.le_of_ble_eq_true rfl) (by decide) (by decide) (c_By_has_out G v 365 366 64 62 ⟨w365, a366, by decide, u365_1, by decide, by decide⟩ i (by omega) k e62 (by omega) hv) (fun r u1 hq => ?_)
  obtain ⟨hr, hv2, hm3, fe0_u1⟩ := hq
  rw [hr]
  clear hr r
  have hm4 := hm.go hm3 (by intro i hi; simp only [List.mem_cons, List.not_mem_nil, or_false] at hi ⊢ <;> omega)
  have e5 : u1 62 = nI k := (hm3 62 (by decide)).trans e62
  show SG ZX G mt_PG_key 31 [(0, .ref 61), (1, .int (nI 3)), (2, .int (nI 1)), (3, .int (nI i))] [.int (nI 0)] u1 0 0 _
  refine H_if_neN d_PG_key_31 rfl (by omega) (fun c => by first | exact absurd c (by omega) | exact c.elim | exact absurd c (by decide) | exact absurd (by assumption) c | exact absurd c (by assumption) | exact absurd c (Int32.not_le.mpr (by assumption))) (fun _ => ?_)
  exact H_throw rfl d_PG_key_34 d_PG_key_37 d_PG_key_38 d_PG_key_41 th_cl th_in (by decide) (Nat.le_of_ble_eq_true rfl) (by decide) (by decide) (hQ _ hv2 hm4)
set_option maxRecDepth 100000 in
set_option maxHeartbeats 4000000 in
theorem t_PG_key_3_2_neg (G : GX) (hNT : G.1.stackTraces = false) (v : Nat → Int32) (z : Int32) (hz_n : z < 0) (hv : okv v) : CSx G mt_PG_key [.ref 61, .int (nI 3), .int (nI 2), .int z] v (fun _ v' => okv v' ∧ mdf [] v v') := by
  refine CSx.of hNT (by decide) (Nat.le_of_ble_eq_true rfl) ?_
  generalize hQe : (fun (_ : Option Value) (v' : Nat → Int32) => okv v' ∧ mdf [] v v') = Q
  have hQ : ∀ u, okv u → mdf [] v u → Q none u := by rw [← hQe]; exact fun u h1 h2 => ⟨h1, h2⟩
  clear hQe
  have hm : mdf [] v v := mdf.rf
  show SG ZX G mt_PG_key 0 [(0, .ref 61), (1, .int (nI 3)), (2, .int (nI 2)), (3, .int z)] [] v 0 0 Q
  refine SG.lift (fun _ _ k => G_iload_n d_PG_key_0 rfl k) ?_
  refine H_static (as := [.int (nI 3)]) (rest := []) d_PG_key_1 rfl (jw_PG_isSession.jo (by decide)) lm_PG_133 jt_PG_isSession rfl (Nat.le_of_ble_eq_true rfl) (by decide) (by decide) (c_PG_isSession G v 3 (by omega)) (fun r v' hq => ?_)
  rw [hq.1, hq.2]
  clear hq r v'
  show SG ZX G mt_PG_key 4 [(0, .ref 61), (1, .int (nI 3)), (2, .int (nI 2)), (3, .int z)] [.int (nI 1)] v 0 0 _
  refine H_if_eqN d_PG_key_4 rfl (by omega) (fun c => by first | exact absurd c (by omega) | exact c.elim | exact absurd c (by decide) | exact absurd (by assumption) c | exact absurd c (by assumption) | exact absurd c (Int32.not_le.mpr (by assumption))) (fun _ => ?_)
  refine SG.lift (fun _ _ k => G_iload_n d_PG_key_7 rfl k) ?_
  refine H_if_ltN d_PG_key_8 rfl (by omega) (fun c => by first | exact absurd c (by omega) | exact c.elim | exact absurd c (by decide) | exact absurd (by assumption) c | exact absurd c (by assumption) | exact absurd c (Int32.not_le.mpr (by assumption))) (fun _ => ?_)
  refine SG.lift (fun _ _ k => G_iload_n d_PG_key_11 rfl k) ?_
  refine SG.lift (fun _ _ k => G_iconst (v := nI 2) d_PG_key_12 (by decide) k) ?_
  refine H_icmp_gtN d_PG_key_13 rfl (by omega) (by omega) (fun c => by first | exact absurd c (by omega) | exact c.elim | exact absurd c (by decide) | exact absurd (by assumption) c | exact absurd c (by assumption) | exact absurd c (Int32.not_le.mpr (by assumption))) (fun _ => ?_)
  refine SG.lift (fun _ _ k => G_aload_n (v := .ref 61) d_PG_key_16 rfl (Or.inr ⟨_, rfl⟩) k) ?_
  refine H_getfield d_PG_key_17 fg_PG_34 (w61 _) rfl ?_
  refine SG.lift (fun _ _ k => G_iload_n d_PG_key_20 rfl k) ?_
  refine H_aaload (C0 := "PasswordGate$Session") d_PG_key_21 (by decide) (w264 _) rfl (vp_in_nI (by omega) (by omega)) ?_
  refine H_getfield d_PG_key_22 fg_PG_162 (w343 _) rfl ?_
  refine SG.lift (fun _ _ k => G_iload_n d_PG_key_25 rfl k) ?_
  refine H_aaload (C0 := "PasswordGate$Bytes") d_PG_key_26 (by decide) (w345 _) rfl (vp_in_nI (by omega) (by omega)) ?_
  refine SG.lift (fun _ _ k => G_iload_n d_PG_key_27 rfl k) ?_
  refine H_virtual (as := [.int z]) (rest := []) (b := 367) d_PG_key_28 rfl (jw_By_has.jo (by decide)) lm_PG_119 ji_By_has js_By_has (w367 _) rfl rfl rfl (Nat.le_of_ble_eq_true rfl) (by decide) (by decide) (c_By_has_neg G v 367 368 64 63 ⟨w367, a368, by decide, u367_1, by decide, by decide⟩ z hz_n hv) (fun r u1 hq => ?_)
  obtain ⟨hr, hv2, hm3⟩ := hq
  rw [hr]
  clear hr r
  have hm4 := hm.go hm3 (by intro i hi; simp only [List.mem_cons, List.not_mem_nil, or_false] at hi ⊢ <;> omega)
  show SG ZX G mt_PG_key 31 [(0, .ref 61), (1, .int (nI 3)), (2, .int (nI 2)), (3, .int z)] [.int (nI 0)] u1 0 0 _
  refine H_if_neN d_PG_key_31 rfl (by omega) (fun c => by first | exact absurd c (by omega) | exact c.elim | exact absurd c (by decide) | exact absurd (by assumption) c | exact absurd c (by assumption) | exact absurd c (Int32.not_le.mpr (by assumption))) (fun _ => ?_)
  exact H_throw rfl d_PG_key_34 d_PG_key_37 d_PG_key_38 d_PG_key_41 th_cl th_in (by decide) (Nat.le_of_ble_eq_true rfl) (by decide) (by decide) (hQ _ hv2 hm4)
set_option maxRecDepth 100000 in
set_option maxHeartbeats 4000000 in
theorem t_PG_key_3_2_out (G : GX) (hNT : G.1.stackTraces = false) (v : Nat → Int32) (i : Nat) (b_i : i < 2147483648) (k : Nat) (e63 : v 63 = nI k) (hk : k ≤ i ∧ k ≤ 64) (hv : okv v) : CSx G mt_PG_key [.ref 61, .int (nI 3), .int (nI 2), .int (nI i)] v (fun _ v' => okv v' ∧ mdf [] v v') := by
  refine CSx.of hNT (by decide) (Nat.le_of_ble_eq_true rfl) ?_
  generalize hQe : (fun (_ : Option Value) (v' : Nat → Int32) => okv v' ∧ mdf [] v v') = Q
  have hQ : ∀ u, okv u → mdf [] v u → Q none u := by rw [← hQe]; exact fun u h1 h2 => ⟨h1, h2⟩
  clear hQe
  have hm : mdf [] v v := mdf.rf
  show SG ZX G mt_PG_key 0 [(0, .ref 61), (1, .int (nI 3)), (2, .int (nI 2)), (3, .int (nI i))] [] v 0 0 Q
  refine SG.lift (fun _ _ k => G_iload_n d_PG_key_0 rfl k) ?_
  refine H_static (as := [.int (nI 3)]) (rest := []) d_PG_key_1 rfl (jw_PG_isSession.jo (by decide)) lm_PG_133 jt_PG_isSession rfl (Nat.le_of_ble_eq_true rfl) (by decide) (by decide) (c_PG_isSession G v 3 (by omega)) (fun r v' hq => ?_)
  rw [hq.1, hq.2]
  clear hq r v'
  show SG ZX G mt_PG_key 4 [(0, .ref 61), (1, .int (nI 3)), (2, .int (nI 2)), (3, .int (nI i))] [.int (nI 1)] v 0 0 _
  refine H_if_eqN d_PG_key_4 rfl (by omega) (fun c => by first | exact absurd c (by omega) | exact c.elim | exact absurd c (by decide) | exact absurd (by assumption) c | exact absurd c (by assumption) | exact absurd c (Int32.not_le.mpr (by assumption))) (fun _ => ?_)
  refine SG.lift (fun _ _ k => G_iload_n d_PG_key_7 rfl k) ?_
  refine H_if_ltN d_PG_key_8 rfl (by omega) (fun c => by first | exact absurd c (by omega) | exact c.elim | exact absurd c (by decide) | exact absurd (by assumption) c | exact absurd c (by assumption) | exact absurd c (Int32.not_le.mpr (by assumption))) (fun _ => ?_)
  refine SG.lift (fun _ _ k => G_iload_n d_PG_key_11 rfl k) ?_
  refine SG.lift (fun _ _ k => G_iconst (v := nI 2) d_PG_key_12 (by decide) k) ?_
  refine H_icmp_gtN d_PG_key_13 rfl (by omega) (by omega) (fun c => by first | exact absurd c (by omega) | exact c.elim | exact absurd c (by decide) | exact absurd (by assumption) c | exact absurd c (by assumption) | exact absurd c (Int32.not_le.mpr (by assumption))) (fun _ => ?_)
  refine SG.lift (fun _ _ k => G_aload_n (v := .ref 61) d_PG_key_16 rfl (Or.inr ⟨_, rfl⟩) k) ?_
  refine H_getfield d_PG_key_17 fg_PG_34 (w61 _) rfl ?_
  refine SG.lift (fun _ _ k => G_iload_n d_PG_key_20 rfl k) ?_
  refine H_aaload (C0 := "PasswordGate$Session") d_PG_key_21 (by decide) (w264 _) rfl (vp_in_nI (by omega) (by omega)) ?_
  refine H_getfield d_PG_key_22 fg_PG_162 (w343 _) rfl ?_
  refine SG.lift (fun _ _ k => G_iload_n d_PG_key_25 rfl k) ?_
  refine H_aaload (C0 := "PasswordGate$Bytes") d_PG_key_26 (by decide) (w345 _) rfl (vp_in_nI (by omega) (by omega)) ?_
  refine SG.lift (fun _ _ k => G_iload_n d_PG_key_27 rfl k) ?_
  refine H_virtual (as := [.int (nI i)]) (rest := []) (b := 367) d_PG_key_28 rfl (jw_By_has.jo (by decide)) lm_PG_119 ji_By_has js_By_has (w367 _) rfl rfl rfl (Nat.le_of_ble_eq_true rfl) (by decide) (by decide) (c_By_has_out G v 367 368 64 63 ⟨w367, a368, by decide, u367_1, by decide, by decide⟩ i (by omega) k e63 (by omega) hv) (fun r u1 hq => ?_)
  obtain ⟨hr, hv2, hm3, fe0_u1⟩ := hq
  rw [hr]
  clear hr r
  have hm4 := hm.go hm3 (by intro i hi; simp only [List.mem_cons, List.not_mem_nil, or_false] at hi ⊢ <;> omega)
  have e5 : u1 63 = nI k := (hm3 63 (by decide)).trans e63
  show SG ZX G mt_PG_key 31 [(0, .ref 61), (1, .int (nI 3)), (2, .int (nI 2)), (3, .int (nI i))] [.int (nI 0)] u1 0 0 _
  refine H_if_neN d_PG_key_31 rfl (by omega) (fun c => by first | exact absurd c (by omega) | exact c.elim | exact absurd c (by decide) | exact absurd (by assumption) c | exact absurd c (by assumption) | exact absurd c (Int32.not_le.mpr (by assumption))) (fun _ => ?_)
  exact H_throw rfl d_PG_key_34 d_PG_key_37 d_PG_key_38 d_PG_key_41 th_cl th_in (by decide) (Nat.le_of_ble_eq_true rfl) (by decide) (by decide) (hQ _ hv2 hm4)

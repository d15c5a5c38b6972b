def oq (f : Nat → Int64) : va_E := .inl (0, 1, .inr (.inl f))
set_option maxHeartbeats 8000000 in
theorem hx_result_thr {G : GX} {M : List va_E} {x : Int32} (h61 : M[61]? = some pgO) (h : CTx G mt_PG_result [.ref 61, .int x] M (fun _ M' => M' = M)) : CTh G mi_lresult [(0, 9, 12, 13)] [.ref 61, .int x, .ref 451] M (fun r M' => r = some (.int (nI 1)) ∧ M' = M) := by
  refine CTh.of (by decide) (Nat.le_of_ble_eq_true rfl) ?_
  show TG (ZH [(0, 9, 12, 13)]) G mi_lresult 0 [(0, .ref 61), (1, .int x), (2, .ref 451)] [] M 0 0 _
  refine G_aload_n (v := .ref 451) d_lresult_0 rfl (Or.inr ⟨_, rfl⟩) ?_
  refine G_iconst (v := nI 0) d_lresult_1 (by decide) ?_
  refine G_aload_n (v := .ref 61) d_lresult_2 rfl (Or.inr ⟨_, rfl⟩) ?_
  refine G_iload_n d_lresult_3 rfl ?_
  refine G_catch (he := 9) (hp := 12) (ct := 13) (i := 3) (len := 1) (mj := mt_PG_result) (L' := [(0, .ref 61), (1, .int x), (2, .ref 451)]) (as := [.int x]) (rest := [.int (nI 0), .ref 451]) d_lresult_4 rfl (JW.jo (mi := mi_lresult) (mj := mt_PG_result) jw_PG_result (by decide)) lm_lw_7 ji_PG_result js_PG_result h61 rfl rfl rfl (Nat.le_of_ble_eq_true rfl) (by decide) (by decide) h rfl (by decide) (by decide) lc_lw_13 (by decide) (fun hx hb h k => lv_astore_n hx hb d_lresult_12 rfl h (by decide) rfl k) rfl (fun M' hq => ?_)
  refine G_iconst (v := nI 1) d_lresult_13 (by decide) ?_
  exact G_retH d_lresult_14 rfl rfl (by decide) (by decide) ⟨rfl, hq⟩
set_option maxHeartbeats 8000000 in
theorem hx_result_ret {G : GX} {M : List va_E} {f : Nat → Int64} {r x : Int32} (h61 : M[61]? = some pgO) (hf : M[451]? = some (.inl (0, 1, .inr (.inl f)))) (h : CT G mi_PG_result [.ref 61, .int x] M (fun r' M' => r' = some (.int r) ∧ M' = M)) : CTh G mi_lresult [(0, 9, 12, 13)] [.ref 61, .int x, .ref 451] M (fun r' M' => r' = some (.int (nI 0)) ∧ ∃ g : Nat → Int64, g 0 = r.toInt64 ∧ M' = M.set 451 (oq g)) := by
  refine CTh.of (by decide) (Nat.le_of_ble_eq_true rfl) ?_
  show TG (ZH [(0, 9, 12, 13)]) G mi_lresult 0 [(0, .ref 61), (1, .int x), (2, .ref 451)] [] M 0 0 _
  refine G_aload_n (v := .ref 451) d_lresult_0 rfl (Or.inr ⟨_, rfl⟩) ?_
  refine G_iconst (v := nI 0) d_lresult_1 (by decide) ?_
  refine G_aload_n (v := .ref 61) d_lresult_2 rfl (Or.inr ⟨_, rfl⟩) ?_
  refine G_iload_n d_lresult_3 rfl ?_
  refine G_virtual (mj := mi_PG_result) (as := [.int x]) (rest := [.int (nI 0), .ref 451]) d_lresult_4 rfl (JW.jo (mi := mi_lresult) (mj := mi_PG_result) jw_PG_result (by decide)) lm_lw_7 ji_PG_result js_PG_result h61 rfl rfl rfl (Nat.le_of_ble_eq_true rfl) (by decide) (by decide) h (fun r1 M' hq => ?_)
  obtain ⟨e1, e2⟩ := hq
  subst e1; subst e2
  refine G_i2l d_lresult_7 ?_
  refine G_lastore (n := 1) d_lresult_8 (by decide) hf (vp_in_nI (by decide) (by decide)) rfl ?_
  refine G_goto (tgt := 15) d_lresult_9 rfl ?_
  refine G_iconst (v := nI 0) d_lresult_15 (by decide) ?_
  exact G_retH d_lresult_16 rfl rfl (by decide) (by decide) ⟨rfl, _, rfl, rfl⟩
set_option maxHeartbeats 8000000 in
theorem hx_wire_thr {G : GX} {M : List va_E} {x y z : Int32} (h61 : M[61]? = some pgO) (h : CTx G mt_PG_wire [.ref 61, .int x, .int y, .int z] M (fun _ M' => M' = M)) : CTh G mi_lwire [(0, 12, 15, 13)] [.ref 61, .int x, .int y, .int z, .ref 451] M (fun r M' => r = some (.int (nI 1)) ∧ M' = M) := by
  refine CTh.of (by decide) (Nat.le_of_ble_eq_true rfl) ?_
  show TG (ZH [(0, 12, 15, 13)]) G mi_lwire 0 [(0, .ref 61), (1, .int x), (2, .int y), (3, .int z), (4, .ref 451)] [] M 0 0 _
  refine G_aload (v := .ref 451) d_lwire_0 rfl (Or.inr ⟨_, rfl⟩) ?_
  refine G_iconst (v := nI 0) d_lwire_2 (by decide) ?_
  refine G_aload_n (v := .ref 61) d_lwire_3 rfl (Or.inr ⟨_, rfl⟩) ?_
  refine G_iload_n d_lwire_4 rfl ?_
  refine G_iload_n d_lwire_5 rfl ?_
  refine G_iload_n d_lwire_6 rfl ?_
  refine G_catch (he := 12) (hp := 15) (ct := 13) (i := 5) (len := 2) (mj := mt_PG_wire) (L' := [(0, .ref 61), (1, .int x), (2, .int y), (3, .int z), (4, .ref 451)]) (as := [.int x, .int y, .int z]) (rest := [.int (nI 0), .ref 451]) d_lwire_7 rfl (JW.jo (mi := mi_lwire) (mj := mt_PG_wire) jw_PG_wire (by decide)) lm_lw_15 ji_PG_wire js_PG_wire h61 rfl rfl rfl (Nat.le_of_ble_eq_true rfl) (by decide) (by decide) h rfl (by decide) (by decide) lc_lw_13 (by decide) (fun hx hb h k => lv_astore hx hb d_lwire_15 h (by decide) rfl k) rfl (fun M' hq => ?_)
  refine G_iconst (v := nI 1) d_lwire_17 (by decide) ?_
  exact G_retH d_lwire_18 rfl rfl (by decide) (by decide) ⟨rfl, hq⟩
set_option maxHeartbeats 8000000 in
theorem hx_wire_ret {G : GX} {M : List va_E} {f : Nat → Int64} {r x y z : Int32} (h61 : M[61]? = some pgO) (hf : M[451]? = some (.inl (0, 1, .inr (.inl f)))) (h : CT G mi_PG_wire [.ref 61, .int x, .int y, .int z] M (fun r' M' => r' = some (.int r) ∧ M' = M)) : CTh G mi_lwire [(0, 12, 15, 13)] [.ref 61, .int x, .int y, .int z, .ref 451] M (fun r' M' => r' = some (.int (nI 0)) ∧ ∃ g : Nat → Int64, g 0 = r.toInt64 ∧ M' = M.set 451 (oq g)) := by
  refine CTh.of (by decide) (Nat.le_of_ble_eq_true rfl) ?_
  show TG (ZH [(0, 12, 15, 13)]) G mi_lwire 0 [(0, .ref 61), (1, .int x), (2, .int y), (3, .int z), (4, .ref 451)] [] M 0 0 _
  refine G_aload (v := .ref 451) d_lwire_0 rfl (Or.inr ⟨_, rfl⟩) ?_
  refine G_iconst (v := nI 0) d_lwire_2 (by decide) ?_
  refine G_aload_n (v := .ref 61) d_lwire_3 rfl (Or.inr ⟨_, rfl⟩) ?_
  refine G_iload_n d_lwire_4 rfl ?_
  refine G_iload_n d_lwire_5 rfl ?_
  refine G_iload_n d_lwire_6 rfl ?_
  refine G_virtual (mj := mi_PG_wire) (as := [.int x, .int y, .int z]) (rest := [.int (nI 0), .ref 451]) d_lwire_7 rfl (JW.jo (mi := mi_lwire) (mj := mi_PG_wire) jw_PG_wire (by decide)) lm_lw_15 ji_PG_wire js_PG_wire h61 rfl rfl rfl (Nat.le_of_ble_eq_true rfl) (by decide) (by decide) h (fun r1 M' hq => ?_)
  obtain ⟨e1, e2⟩ := hq
  subst e1; subst e2
  refine G_i2l d_lwire_10 ?_
  refine G_lastore (n := 1) d_lwire_11 (by decide) hf (vp_in_nI (by decide) (by decide)) rfl ?_
  refine G_goto (tgt := 19) d_lwire_12 rfl ?_
  refine G_iconst (v := nI 0) d_lwire_19 (by decide) ?_
  exact G_retH d_lwire_20 rfl rfl (by decide) (by decide) ⟨rfl, _, rfl, rfl⟩
set_option maxHeartbeats 8000000 in
theorem hx_key_thr {G : GX} {M : List va_E} {x y z : Int32} (h61 : M[61]? = some pgO) (h : CTx G mt_PG_key [.ref 61, .int x, .int y, .int z] M (fun _ M' => M' = M)) : CTh G mi_lkey [(0, 12, 15, 13)] [.ref 61, .int x, .int y, .int z, .ref 451] M (fun r M' => r = some (.int (nI 1)) ∧ M' = M) := by
  refine CTh.of (by decide) (Nat.le_of_ble_eq_true rfl) ?_
  show TG (ZH [(0, 12, 15, 13)]) G mi_lkey 0 [(0, .ref 61), (1, .int x), (2, .int y), (3, .int z), (4, .ref 451)] [] M 0 0 _
  refine G_aload (v := .ref 451) d_lkey_0 rfl (Or.inr ⟨_, rfl⟩) ?_
  refine G_iconst (v := nI 0) d_lkey_2 (by decide) ?_
  refine G_aload_n (v := .ref 61) d_lkey_3 rfl (Or.inr ⟨_, rfl⟩) ?_
  refine G_iload_n d_lkey_4 rfl ?_
  refine G_iload_n d_lkey_5 rfl ?_
  refine G_iload_n d_lkey_6 rfl ?_
  refine G_catch (he := 12) (hp := 15) (ct := 13) (i := 5) (len := 2) (mj := mt_PG_key) (L' := [(0, .ref 61), (1, .int x), (2, .int y), (3, .int z), (4, .ref 451)]) (as := [.int x, .int y, .int z]) (rest := [.int (nI 0), .ref 451]) d_lkey_7 rfl (JW.jo (mi := mi_lkey) (mj := mt_PG_key) jw_PG_key (by decide)) lm_lw_19 ji_PG_key js_PG_key h61 rfl rfl rfl (Nat.le_of_ble_eq_true rfl) (by decide) (by decide) h rfl (by decide) (by decide) lc_lw_13 (by decide) (fun hx hb h k => lv_astore hx hb d_lkey_15 h (by decide) rfl k) rfl (fun M' hq => ?_)
  refine G_iconst (v := nI 1) d_lkey_17 (by decide) ?_
  exact G_retH d_lkey_18 rfl rfl (by decide) (by decide) ⟨rfl, hq⟩
set_option maxHeartbeats 8000000 in
theorem hx_key_ret {G : GX} {M : List va_E} {f : Nat → Int64} {r x y z : Int32} (h61 : M[61]? = some pgO) (hf : M[451]? = some (.inl (0, 1, .inr (.inl f)))) (h : CT G mi_PG_key [.ref 61, .int x, .int y, .int z] M (fun r' M' => r' = some (.int r) ∧ M' = M)) : CTh G mi_lkey [(0, 12, 15, 13)] [.ref 61, .int x, .int y, .int z, .ref 451] M (fun r' M' => r' = some (.int (nI 0)) ∧ ∃ g : Nat → Int64, g 0 = r.toInt64 ∧ M' = M.set 451 (oq g)) := by
  refine CTh.of (by decide) (Nat.le_of_ble_eq_true rfl) ?_
  show TG (ZH [(0, 12, 15, 13)]) G mi_lkey 0 [(0, .ref 61), (1, .int x), (2, .int y), (3, .int z), (4, .ref 451)] [] M 0 0 _
  refine G_aload (v := .ref 451) d_lkey_0 rfl (Or.inr ⟨_, rfl⟩) ?_
  refine G_iconst (v := nI 0) d_lkey_2 (by decide) ?_
  refine G_aload_n (v := .ref 61) d_lkey_3 rfl (Or.inr ⟨_, rfl⟩) ?_
  refine G_iload_n d_lkey_4 rfl ?_
  refine G_iload_n d_lkey_5 rfl ?_
  refine G_iload_n d_lkey_6 rfl ?_
  refine G_virtual (mj := mi_PG_key) (as := [.int x, .int y, .int z]) (rest := [.int (nI 0), .ref 451]) d_lkey_7 rfl (JW.jo (mi := mi_lkey) (mj := mi_PG_key) jw_PG_key (by decide)) lm_lw_19 ji_PG_key js_PG_key h61 rfl rfl rfl (Nat.le_of_ble_eq_true rfl) (by decide) (by decide) h (fun r1 M' hq => ?_)
  obtain ⟨e1, e2⟩ := hq
  subst e1; subst e2
  refine G_i2l d_lkey_10 ?_
  refine G_lastore (n := 1) d_lkey_11 (by decide) hf (vp_in_nI (by decide) (by decide)) rfl ?_
  refine G_goto (tgt := 19) d_lkey_12 rfl ?_
  refine G_iconst (v := nI 0) d_lkey_19 (by decide) ?_
  exact G_retH d_lkey_20 rfl rfl (by decide) (by decide) ⟨rfl, _, rfl, rfl⟩

theorem PRI.dummy : True := trivial
/-- class and reference answer alike, and J holds behind -/
def PRI (G : GX) (m1 m2 : MI) (as : List Value) (v : Nat → Int32) (J : (Nat → Int32) → Prop) : Prop :=
  ∃ (r : Int32) (Q1 : (Nat → Int32) → Prop), CS G m1 (.ref 61 :: as) v (fun r' v' => r' = some (.int r) ∧ Q1 v') ∧ ∀ v', Q1 v' → CS G m2 (.ref 373 :: as) v' (fun r' v'' => r' = some (.int r) ∧ J v'')
theorem PRI.mk {G : GX} {m1 m2 : MI} {as : List Value} {v : Nat → Int32} {J : (Nat → Int32) → Prop} {r : Int32} {A : (Nat → Int32) → Prop} {B : (Nat → Int32) → (Nat → Int32) → Prop} (h1 : CS G m1 (.ref 61 :: as) v (fun r' v' => r' = some (.int r) ∧ A v')) (h2 : ∀ v', A v' → CS G m2 (.ref 373 :: as) v' (fun r' v'' => r' = some (.int r) ∧ B v' v'')) (hJ : ∀ v' v'', A v' → B v' v'' → J v'') : PRI G m1 m2 as v J :=
  ⟨r, A, h1, fun v' hA => (h2 v' hA).post fun _ v'' h => ⟨h.1, hJ v' v'' hA h.2⟩⟩
/-- the class throws, the reference says so -/
def PT (G : GX) (mt m2 : MI) (as : List Value) (v : Nat → Int32) (J : (Nat → Int32) → Prop) : Prop :=
  ∃ Q1 : (Nat → Int32) → Prop, CSx G mt (.ref 61 :: as) v (fun _ v' => Q1 v') ∧ ∀ v', Q1 v' → CS G m2 (.ref 373 :: as) v' (fun r' v'' => (∃ z : Int32, r' = some (.int z)) ∧ okv v'' ∧ v'' 66 = nI 1 ∧ J v'')
theorem PT.mk {G : GX} {mt m2 : MI} {as : List Value} {v : Nat → Int32} {J : (Nat → Int32) → Prop} {r : Int32} {A : (Nat → Int32) → Prop} {B : (Nat → Int32) → (Nat → Int32) → Prop} (h1 : CSx G mt (.ref 61 :: as) v (fun _ v' => A v')) (h2 : ∀ v', A v' → CS G m2 (.ref 373 :: as) v' (fun r' v'' => r' = some (.int r) ∧ B v' v'')) (hB : ∀ v' v'', A v' → B v' v'' → okv v'' ∧ v'' 66 = nI 1 ∧ J v'') : PT G mt m2 as v J :=
  ⟨A, h1, fun v' hA => (h2 v' hA).post fun _ v'' h => ⟨⟨r, h.1⟩, hB v' v'' hA h.2⟩⟩
theorem lc_0 {b N : Nat} {xs : Nat → Int32} {G : GX} {v : Nat → Int32} {i kc ks : Nat} {J : (Nat → Int32) → Prop} (hi : i + 6 ≤ N) (hN : N ≤ 3073) (hkc : kc + 1 ≤ 600002) (hks : ks + 6 ≤ 7302198) (h : PRI G mi_PG_feed mi_Mo_feed [.int (xs (i + 1)), .int (xs (i + 2)), .int (xs (i + 3)), .int (xs (i + 4)), .int (xs (i + 5))] v J) (kk : ∀ v2, J v2 → LG b N xs G 671 [(4, .int (nI i)), (3, .ref 451), (2, .ref 373), (1, .ref 61)] [] v2 kc ks) : LG b N xs G 120 [(4, .int (nI i)), (3, .ref 451), (2, .ref 373), (1, .ref 61)] [] v kc ks := by
  obtain ⟨r, Q1, h1, h2⟩ := h
  refine LG.lift (fun _ k => G_aload_n (v := .ref 61) d_lw_120 rfl (Or.inr ⟨_, rfl⟩) k) ?_
  refine LG.lift (fun _ k => L_ld (i := i) (k := 1) d_lw_121 d_lw_122 d_lw_124 d_lw_125 d_lw_126 rfl rfl (by omega) (by omega) k) ?_
  refine LG.lift (fun _ k => L_ld (i := i) (k := 2) d_lw_127 d_lw_128 d_lw_130 d_lw_131 d_lw_132 rfl rfl (by omega) (by omega) k) ?_
  refine LG.lift (fun _ k => L_ld (i := i) (k := 3) d_lw_133 d_lw_134 d_lw_136 d_lw_137 d_lw_138 rfl rfl (by omega) (by omega) k) ?_
  refine LG.lift (fun _ k => L_ld (i := i) (k := 4) d_lw_139 d_lw_140 d_lw_142 d_lw_143 d_lw_144 rfl rfl (by omega) (by omega) k) ?_
  refine LG.lift (fun _ k => L_ld (i := i) (k := 5) d_lw_145 d_lw_146 d_lw_148 d_lw_149 d_lw_150 rfl rfl (by omega) (by omega) k) ?_
  refine LG_virtual (as := [.int (xs (i + 1)), .int (xs (i + 2)), .int (xs (i + 3)), .int (xs (i + 4)), .int (xs (i + 5))]) (rest := []) (c0 := 61) (mj := mi_PG_feed) d_lw_151 rfl (jw_PG_feed.jo (by decide)) lm_lw_34 ji_PG_feed js_PG_feed (w61 _) rfl rfl rfl (Nat.le_of_ble_eq_true rfl) (by show kc + 0 ≤ 600002; omega) (by show ks + 0 ≤ 7302198; omega) h1 (fun r1 v1 hq => ?_)
  obtain ⟨rfl, hq1⟩ := hq
  show LG b N xs G 154 [(4, .int (nI i)), (3, .ref 451), (2, .ref 373), (1, .ref 61)] [.int r] v1 kc ks
  refine LG.lift (fun _ k => G_aload_n (v := .ref 373) d_lw_154 rfl (Or.inr ⟨_, rfl⟩) k) ?_
  refine LG.lift (fun _ k => L_ld (i := i) (k := 1) d_lw_155 d_lw_156 d_lw_158 d_lw_159 d_lw_160 rfl rfl (by omega) (by omega) k) ?_
  refine LG.lift (fun _ k => L_ld (i := i) (k := 2) d_lw_161 d_lw_162 d_lw_164 d_lw_165 d_lw_166 rfl rfl (by omega) (by omega) k) ?_
  refine LG.lift (fun _ k => L_ld (i := i) (k := 3) d_lw_167 d_lw_168 d_lw_170 d_lw_171 d_lw_172 rfl rfl (by omega) (by omega) k) ?_
  refine LG.lift (fun _ k => L_ld (i := i) (k := 4) d_lw_173 d_lw_174 d_lw_176 d_lw_177 d_lw_178 rfl rfl (by omega) (by omega) k) ?_
  refine LG.lift (fun _ k => L_ld (i := i) (k := 5) d_lw_179 d_lw_180 d_lw_182 d_lw_183 d_lw_184 rfl rfl (by omega) (by omega) k) ?_
  refine LG_virtual (as := [.int (xs (i + 1)), .int (xs (i + 2)), .int (xs (i + 3)), .int (xs (i + 4)), .int (xs (i + 5))]) (rest := [.int r]) (c0 := 373) (mj := mi_Mo_feed) d_lw_185 rfl (jw_Mo_feed.jo (by decide)) lm_lw_38 ji_Mo_feed js_Mo_feed (w373 _) rfl rfl rfl (Nat.le_of_ble_eq_true rfl) (by show kc + 0 ≤ 600002; omega) (by show ks + 0 ≤ 7302198; omega) (h2 v1 hq1) (fun r1 v2 hq => ?_)
  obtain ⟨rfl, hq2⟩ := hq
  show LG b N xs G 188 [(4, .int (nI i)), (3, .ref 451), (2, .ref 373), (1, .ref 61)] [.int r, .int r] v2 kc ks
  refine LG.lift (fun _ k => G_icmp_eq d_lw_188 (tgt := 671) rfl (fun _ => k) (fun c => absurd rfl c)) ?_
  exact kk v2 hq2
theorem lc_1 {b N : Nat} {xs : Nat → Int32} {G : GX} {v : Nat → Int32} {i kc ks : Nat} {J : (Nat → Int32) → Prop} (hi : i + 6 ≤ N) (hN : N ≤ 3073) (hkc : kc + 1 ≤ 600002) (hks : ks + 6 ≤ 7302198) (h : PRI G mi_PG_end mi_Mo_end [.int (xs (i + 1))] v J) (kk : ∀ v2, J v2 → LG b N xs G 671 [(4, .int (nI i)), (3, .ref 451), (2, .ref 373), (1, .ref 61)] [] v2 kc ks) : LG b N xs G 193 [(4, .int (nI i)), (3, .ref 451), (2, .ref 373), (1, .ref 61)] [] v kc ks := by
  obtain ⟨r, Q1, h1, h2⟩ := h
  refine LG.lift (fun _ k => G_aload_n (v := .ref 61) d_lw_193 rfl (Or.inr ⟨_, rfl⟩) k) ?_
  refine LG.lift (fun _ k => L_ld (i := i) (k := 1) d_lw_194 d_lw_195 d_lw_197 d_lw_198 d_lw_199 rfl rfl (by omega) (by omega) k) ?_
  refine LG_virtual (as := [.int (xs (i + 1))]) (rest := []) (c0 := 61) (mj := mi_PG_end) d_lw_200 rfl (jw_PG_end.jo (by decide)) lm_lw_39 ji_PG_end js_PG_end (w61 _) rfl rfl rfl (Nat.le_of_ble_eq_true rfl) (by show kc + 0 ≤ 600002; omega) (by show ks + 0 ≤ 7302198; omega) h1 (fun r1 v1 hq => ?_)
  obtain ⟨rfl, hq1⟩ := hq
  show LG b N xs G 203 [(4, .int (nI i)), (3, .ref 451), (2, .ref 373), (1, .ref 61)] [.int r] v1 kc ks
  refine LG.lift (fun _ k => G_aload_n (v := .ref 373) d_lw_203 rfl (Or.inr ⟨_, rfl⟩) k) ?_
  refine LG.lift (fun _ k => L_ld (i := i) (k := 1) d_lw_204 d_lw_205 d_lw_207 d_lw_208 d_lw_209 rfl rfl (by omega) (by omega) k) ?_
  refine LG_virtual (as := [.int (xs (i + 1))]) (rest := [.int r]) (c0 := 373) (mj := mi_Mo_end) d_lw_210 rfl (jw_Mo_end.jo (by decide)) lm_lw_43 ji_Mo_end js_Mo_end (w373 _) rfl rfl rfl (Nat.le_of_ble_eq_true rfl) (by show kc + 0 ≤ 600002; omega) (by show ks + 0 ≤ 7302198; omega) (h2 v1 hq1) (fun r1 v2 hq => ?_)
  obtain ⟨rfl, hq2⟩ := hq
  show LG b N xs G 213 [(4, .int (nI i)), (3, .ref 451), (2, .ref 373), (1, .ref 61)] [.int r, .int r] v2 kc ks
  refine LG.lift (fun _ k => G_icmp_eq d_lw_213 (tgt := 671) rfl (fun _ => k) (fun c => absurd rfl c)) ?_
  exact kk v2 hq2
theorem lc_2 {b N : Nat} {xs : Nat → Int32} {G : GX} {v : Nat → Int32} {i kc ks : Nat} {J : (Nat → Int32) → Prop} (hi : i + 6 ≤ N) (hN : N ≤ 3073) (hkc : kc + 1 ≤ 600002) (hks : ks + 6 ≤ 7302198) (h : PRI G mi_PG_hash mi_Mo_hash [] v J) (kk : ∀ v2, J v2 → LG b N xs G 671 [(4, .int (nI i)), (3, .ref 451), (2, .ref 373), (1, .ref 61)] [] v2 kc ks) : LG b N xs G 218 [(4, .int (nI i)), (3, .ref 451), (2, .ref 373), (1, .ref 61)] [] v kc ks := by
  obtain ⟨r, Q1, h1, h2⟩ := h
  refine LG.lift (fun _ k => G_aload_n (v := .ref 61) d_lw_218 rfl (Or.inr ⟨_, rfl⟩) k) ?_
  refine LG_virtual (as := []) (rest := []) (c0 := 61) (mj := mi_PG_hash) d_lw_219 rfl (jw_PG_hash.jo (by decide)) lm_lw_44 ji_PG_hash js_PG_hash (w61 _) rfl rfl rfl (Nat.le_of_ble_eq_true rfl) (by show kc + 0 ≤ 600002; omega) (by show ks + 0 ≤ 7302198; omega) h1 (fun r1 v1 hq => ?_)
  obtain ⟨rfl, hq1⟩ := hq
  show LG b N xs G 222 [(4, .int (nI i)), (3, .ref 451), (2, .ref 373), (1, .ref 61)] [.int r] v1 kc ks
  refine LG.lift (fun _ k => G_aload_n (v := .ref 373) d_lw_222 rfl (Or.inr ⟨_, rfl⟩) k) ?_
  refine LG_virtual (as := []) (rest := [.int r]) (c0 := 373) (mj := mi_Mo_hash) d_lw_223 rfl (jw_Mo_hash.jo (by decide)) lm_lw_48 ji_Mo_hash js_Mo_hash (w373 _) rfl rfl rfl (Nat.le_of_ble_eq_true rfl) (by show kc + 0 ≤ 600002; omega) (by show ks + 0 ≤ 7302198; omega) (h2 v1 hq1) (fun r1 v2 hq => ?_)
  obtain ⟨rfl, hq2⟩ := hq
  show LG b N xs G 226 [(4, .int (nI i)), (3, .ref 451), (2, .ref 373), (1, .ref 61)] [.int r, .int r] v2 kc ks
  refine LG.lift (fun _ k => G_icmp_eq d_lw_226 (tgt := 671) rfl (fun _ => k) (fun c => absurd rfl c)) ?_
  exact kk v2 hq2
theorem lc_3 {b N : Nat} {xs : Nat → Int32} {G : GX} {v : Nat → Int32} {i kc ks : Nat} {J : (Nat → Int32) → Prop} (hi : i + 6 ≤ N) (hN : N ≤ 3073) (hkc : kc + 1 ≤ 600002) (hks : ks + 6 ≤ 7302198) (h : PRI G mi_PG_group mi_Mo_group [] v J) (kk : ∀ v2, J v2 → LG b N xs G 671 [(4, .int (nI i)), (3, .ref 451), (2, .ref 373), (1, .ref 61)] [] v2 kc ks) : LG b N xs G 231 [(4, .int (nI i)), (3, .ref 451), (2, .ref 373), (1, .ref 61)] [] v kc ks := by
  obtain ⟨r, Q1, h1, h2⟩ := h
  refine LG.lift (fun _ k => G_aload_n (v := .ref 61) d_lw_231 rfl (Or.inr ⟨_, rfl⟩) k) ?_
  refine LG_virtual (as := []) (rest := []) (c0 := 61) (mj := mi_PG_group) d_lw_232 rfl (jw_PG_group.jo (by decide)) lm_lw_49 ji_PG_group js_PG_group (w61 _) rfl rfl rfl (Nat.le_of_ble_eq_true rfl) (by show kc + 0 ≤ 600002; omega) (by show ks + 0 ≤ 7302198; omega) h1 (fun r1 v1 hq => ?_)
  obtain ⟨rfl, hq1⟩ := hq
  show LG b N xs G 235 [(4, .int (nI i)), (3, .ref 451), (2, .ref 373), (1, .ref 61)] [.int r] v1 kc ks
  refine LG.lift (fun _ k => G_aload_n (v := .ref 373) d_lw_235 rfl (Or.inr ⟨_, rfl⟩) k) ?_
  refine LG_virtual (as := []) (rest := [.int r]) (c0 := 373) (mj := mi_Mo_group) d_lw_236 rfl (jw_Mo_group.jo (by decide)) lm_lw_52 ji_Mo_group js_Mo_group (w373 _) rfl rfl rfl (Nat.le_of_ble_eq_true rfl) (by show kc + 0 ≤ 600002; omega) (by show ks + 0 ≤ 7302198; omega) (h2 v1 hq1) (fun r1 v2 hq => ?_)
  obtain ⟨rfl, hq2⟩ := hq
  show LG b N xs G 239 [(4, .int (nI i)), (3, .ref 451), (2, .ref 373), (1, .ref 61)] [.int r, .int r] v2 kc ks
  refine LG.lift (fun _ k => G_icmp_eq d_lw_239 (tgt := 671) rfl (fun _ => k) (fun c => absurd rfl c)) ?_
  exact kk v2 hq2
theorem lc_4 {b N : Nat} {xs : Nat → Int32} {G : GX} {v : Nat → Int32} {i kc ks : Nat} {J : (Nat → Int32) → Prop} (hi : i + 6 ≤ N) (hN : N ≤ 3073) (hkc : kc + 1 ≤ 600002) (hks : ks + 6 ≤ 7302198) (h : PRI G mi_PG_times mi_Mo_times [] v J) (kk : ∀ v2, J v2 → LG b N xs G 671 [(4, .int (nI i)), (3, .ref 451), (2, .ref 373), (1, .ref 61)] [] v2 kc ks) : LG b N xs G 244 [(4, .int (nI i)), (3, .ref 451), (2, .ref 373), (1, .ref 61)] [] v kc ks := by
  obtain ⟨r, Q1, h1, h2⟩ := h
  refine LG.lift (fun _ k => G_aload_n (v := .ref 61) d_lw_244 rfl (Or.inr ⟨_, rfl⟩) k) ?_
  refine LG_virtual (as := []) (rest := []) (c0 := 61) (mj := mi_PG_times) d_lw_245 rfl (jw_PG_times.jo (by decide)) lm_lw_53 ji_PG_times js_PG_times (w61 _) rfl rfl rfl (Nat.le_of_ble_eq_true rfl) (by show kc + 0 ≤ 600002; omega) (by show ks + 0 ≤ 7302198; omega) h1 (fun r1 v1 hq => ?_)
  obtain ⟨rfl, hq1⟩ := hq
  show LG b N xs G 248 [(4, .int (nI i)), (3, .ref 451), (2, .ref 373), (1, .ref 61)] [.int r] v1 kc ks
  refine LG.lift (fun _ k => G_aload_n (v := .ref 373) d_lw_248 rfl (Or.inr ⟨_, rfl⟩) k) ?_
  refine LG_virtual (as := []) (rest := [.int r]) (c0 := 373) (mj := mi_Mo_times) d_lw_249 rfl (jw_Mo_times.jo (by decide)) lm_lw_56 ji_Mo_times js_Mo_times (w373 _) rfl rfl rfl (Nat.le_of_ble_eq_true rfl) (by show kc + 0 ≤ 600002; omega) (by show ks + 0 ≤ 7302198; omega) (h2 v1 hq1) (fun r1 v2 hq => ?_)
  obtain ⟨rfl, hq2⟩ := hq
  show LG b N xs G 252 [(4, .int (nI i)), (3, .ref 451), (2, .ref 373), (1, .ref 61)] [.int r, .int r] v2 kc ks
  refine LG.lift (fun _ k => G_icmp_eq d_lw_252 (tgt := 671) rfl (fun _ => k) (fun c => absurd rfl c)) ?_
  exact kk v2 hq2
theorem lc_5t {b N : Nat} {xs : Nat → Int32} {G : GX} {v : Nat → Int32} {i kc ks : Nat} {J : (Nat → Int32) → Prop} (hi : i + 6 ≤ N) (hN : N ≤ 3073) (hkc : kc + 1 ≤ 600002) (hks : ks + 6 ≤ 7302198) (h : PT G mt_PG_result mi_Mo_result [.int (xs (i + 1))] v J) (kk : ∀ v2 v3, J v2 → okv v3 → mdf [] v2 v3 → LG b N xs G 671 [(4, .int (nI i)), (3, .ref 451), (2, .ref 373), (1, .ref 61)] [] v3 (kc + 1) (ks + 6)) : LG b N xs G 257 [(4, .int (nI i)), (3, .ref 451), (2, .ref 373), (1, .ref 61)] [] v kc ks := by
  obtain ⟨Q1, h1, h2⟩ := h
  refine LG.lift (fun _ k => G_aload_n (v := .ref 61) d_lw_257 rfl (Or.inr ⟨_, rfl⟩) k) ?_
  refine LG.lift (fun _ k => L_ld (i := i) (k := 1) d_lw_258 d_lw_259 d_lw_261 d_lw_262 d_lw_263 rfl rfl (by omega) (by omega) k) ?_
  refine LG.lift (fun _ k => G_aload_n (v := .ref 451) d_lw_264 rfl (Or.inr ⟨_, rfl⟩) k) ?_
  refine LG_help (as := [.ref 61, .int (xs (i + 1)), .ref 451]) (rest := []) (mj := mi_lresult) (hs := [(0, 9, 12, 13)]) d_lw_265 rfl (jh_lresult (by decide)) lm_lw_57 jt_lresult rfl (by decide) (by show kc + 1 ≤ 600002; omega) (by show ks + 6 ≤ 7302198; omega) (hp_result_thr h1) (fun r1 v1 hq => ?_)
  obtain ⟨rfl, hq1⟩ := hq
  show LG b N xs G 268 [(4, .int (nI i)), (3, .ref 451), (2, .ref 373), (1, .ref 61)] [.int (nI 1)] v1 (kc + 1) (ks + 6)
  refine LG.lift (fun _ k => G_istore (L' := [(5, .int (nI 1)), (4, .int (nI i)), (3, .ref 451), (2, .ref 373), (1, .ref 61)]) d_lw_268 (by decide) rfl rfl k) ?_
  refine LG.lift (fun _ k => G_aload_n (v := .ref 373) d_lw_270 rfl (Or.inr ⟨_, rfl⟩) k) ?_
  refine LG.lift (fun _ k => L_ld (i := i) (k := 1) d_lw_271 d_lw_272 d_lw_274 d_lw_275 d_lw_276 rfl rfl (by omega) (by omega) k) ?_
  refine LG_virtual (as := [.int (xs (i + 1))]) (rest := []) (c0 := 373) (mj := mi_Mo_result) d_lw_277 rfl (jw_Mo_result.jo (by decide)) lm_lw_60 ji_Mo_result js_Mo_result (w373 _) rfl rfl rfl (Nat.le_of_ble_eq_true rfl) (by show kc + 1 + 0 ≤ 600002; omega) (by show ks + 6 + 0 ≤ 7302198; omega) (h2 v1 hq1) (fun r1 v2 hq => ?_)
  obtain ⟨⟨z, rfl⟩, hv2, e66, hJ⟩ := hq
  show LG b N xs G 280 [(5, .int (nI 1)), (4, .int (nI i)), (3, .ref 451), (2, .ref 373), (1, .ref 61)] [.int z] v2 (kc + 1) (ks + 6)
  refine LG.lift (fun _ k => G_istore (L' := [(6, .int z), (5, .int (nI 1)), (4, .int (nI i)), (3, .ref 451), (2, .ref 373), (1, .ref 61)]) d_lw_280 (by decide) rfl rfl k) ?_
  refine LG.lift (fun _ k => G_aload_n (v := .ref 373) d_lw_282 rfl (Or.inr ⟨_, rfl⟩) k) ?_
  refine LG_virtual (as := []) (rest := []) (c0 := 373) (mj := mi_Mo_thrown) d_lw_283 rfl (jw_Mo_thrown.jo (by decide)) lm_lw_61 ji_Mo_thrown js_Mo_thrown (w373 _) rfl rfl rfl (Nat.le_of_ble_eq_true rfl) (by show kc + 1 + 0 ≤ 600002; omega) (by show ks + 6 + 0 ≤ 7302198; omega) (c_Mo_thrown G v2 1 e66 hv2) (fun r1 v3 hq => ?_)
  obtain ⟨rfl, hv3, hm3, -⟩ := hq
  show LG b N xs G 286 [(6, .int z), (5, .int (nI 1)), (4, .int (nI i)), (3, .ref 451), (2, .ref 373), (1, .ref 61)] [.int (nI 1)] v3 (kc + 1) (ks + 6)
  refine LG.lift (fun _ k => G_iload d_lw_286 rfl k) ?_
  refine LG.lift (fun _ k => G_icmp_eq d_lw_288 (tgt := 293) rfl (fun _ => k) (fun c => absurd rfl c)) ?_
  refine LG.lift (fun _ k => G_iload d_lw_293 rfl k) ?_
  refine LG.lift (fun _ k => G_if_ne d_lw_295 (tgt := 310) rfl (fun _ => k) (fun c => absurd c (by decide))) ?_
  refine LG.lift (fun _ k => G_goto (tgt := 671) d_lw_310 rfl k) ?_
  refine LG.lift (fun _ k => G_sub (L' := [(4, .int (nI i)), (3, .ref 451), (2, .ref 373), (1, .ref 61)]) (fun q hq => List.mem_cons_of_mem _ (List.mem_cons_of_mem _ hq)) k) ?_
  exact kk v2 v3 hJ hv3 hm3
theorem lc_6 {b N : Nat} {xs : Nat → Int32} {G : GX} {v : Nat → Int32} {i kc ks : Nat} {J : (Nat → Int32) → Prop} (hi : i + 6 ≤ N) (hN : N ≤ 3073) (hkc : kc + 1 ≤ 600002) (hks : ks + 6 ≤ 7302198) (h : PRI G mi_PG_enroll mi_Mo_enroll [.int (xs (i + 1))] v J) (kk : ∀ v2, J v2 → LG b N xs G 671 [(4, .int (nI i)), (3, .ref 451), (2, .ref 373), (1, .ref 61)] [] v2 kc ks) : LG b N xs G 313 [(4, .int (nI i)), (3, .ref 451), (2, .ref 373), (1, .ref 61)] [] v kc ks := by
  obtain ⟨r, Q1, h1, h2⟩ := h
  refine LG.lift (fun _ k => G_aload_n (v := .ref 61) d_lw_313 rfl (Or.inr ⟨_, rfl⟩) k) ?_
  refine LG.lift (fun _ k => L_ld (i := i) (k := 1) d_lw_314 d_lw_315 d_lw_317 d_lw_318 d_lw_319 rfl rfl (by omega) (by omega) k) ?_
  refine LG_virtual (as := [.int (xs (i + 1))]) (rest := []) (c0 := 61) (mj := mi_PG_enroll) d_lw_320 rfl (jw_PG_enroll.jo (by decide)) lm_lw_64 ji_PG_enroll js_PG_enroll (w61 _) rfl rfl rfl (Nat.le_of_ble_eq_true rfl) (by show kc + 0 ≤ 600002; omega) (by show ks + 0 ≤ 7302198; omega) h1 (fun r1 v1 hq => ?_)
  obtain ⟨rfl, hq1⟩ := hq
  show LG b N xs G 323 [(4, .int (nI i)), (3, .ref 451), (2, .ref 373), (1, .ref 61)] [.int r] v1 kc ks
  refine LG.lift (fun _ k => G_aload_n (v := .ref 373) d_lw_323 rfl (Or.inr ⟨_, rfl⟩) k) ?_
  refine LG.lift (fun _ k => L_ld (i := i) (k := 1) d_lw_324 d_lw_325 d_lw_327 d_lw_328 d_lw_329 rfl rfl (by omega) (by omega) k) ?_
  refine LG_virtual (as := [.int (xs (i + 1))]) (rest := [.int r]) (c0 := 373) (mj := mi_Mo_enroll) d_lw_330 rfl (jw_Mo_enroll.jo (by decide)) lm_lw_67 ji_Mo_enroll js_Mo_enroll (w373 _) rfl rfl rfl (Nat.le_of_ble_eq_true rfl) (by show kc + 0 ≤ 600002; omega) (by show ks + 0 ≤ 7302198; omega) (h2 v1 hq1) (fun r1 v2 hq => ?_)
  obtain ⟨rfl, hq2⟩ := hq
  show LG b N xs G 333 [(4, .int (nI i)), (3, .ref 451), (2, .ref 373), (1, .ref 61)] [.int r, .int r] v2 kc ks
  refine LG.lift (fun _ k => G_icmp_eq d_lw_333 (tgt := 671) rfl (fun _ => k) (fun c => absurd rfl c)) ?_
  exact kk v2 hq2
theorem lc_7 {b N : Nat} {xs : Nat → Int32} {G : GX} {v : Nat → Int32} {i kc ks : Nat} {J : (Nat → Int32) → Prop} (hi : i + 6 ≤ N) (hN : N ≤ 3073) (hkc : kc + 1 ≤ 600002) (hks : ks + 6 ≤ 7302198) (h : PRI G mi_PG_begin mi_Mo_begin [.int (xs (i + 1)), .int (xs (i + 2))] v J) (kk : ∀ v2, J v2 → LG b N xs G 671 [(4, .int (nI i)), (3, .ref 451), (2, .ref 373), (1, .ref 61)] [] v2 kc ks) : LG b N xs G 338 [(4, .int (nI i)), (3, .ref 451), (2, .ref 373), (1, .ref 61)] [] v kc ks := by
  obtain ⟨r, Q1, h1, h2⟩ := h
  refine LG.lift (fun _ k => G_aload_n (v := .ref 61) d_lw_338 rfl (Or.inr ⟨_, rfl⟩) k) ?_
  refine LG.lift (fun _ k => L_ld (i := i) (k := 1) d_lw_339 d_lw_340 d_lw_342 d_lw_343 d_lw_344 rfl rfl (by omega) (by omega) k) ?_
  refine LG.lift (fun _ k => L_ld (i := i) (k := 2) d_lw_345 d_lw_346 d_lw_348 d_lw_349 d_lw_350 rfl rfl (by omega) (by omega) k) ?_
  refine LG_virtual (as := [.int (xs (i + 1)), .int (xs (i + 2))]) (rest := []) (c0 := 61) (mj := mi_PG_begin) d_lw_351 rfl (jw_PG_begin.jo (by decide)) lm_lw_68 ji_PG_begin js_PG_begin (w61 _) rfl rfl rfl (Nat.le_of_ble_eq_true rfl) (by show kc + 0 ≤ 600002; omega) (by show ks + 0 ≤ 7302198; omega) h1 (fun r1 v1 hq => ?_)
  obtain ⟨rfl, hq1⟩ := hq
  show LG b N xs G 354 [(4, .int (nI i)), (3, .ref 451), (2, .ref 373), (1, .ref 61)] [.int r] v1 kc ks
  refine LG.lift (fun _ k => G_aload_n (v := .ref 373) d_lw_354 rfl (Or.inr ⟨_, rfl⟩) k) ?_
  refine LG.lift (fun _ k => L_ld (i := i) (k := 1) d_lw_355 d_lw_356 d_lw_358 d_lw_359 d_lw_360 rfl rfl (by omega) (by omega) k) ?_
  refine LG.lift (fun _ k => L_ld (i := i) (k := 2) d_lw_361 d_lw_362 d_lw_364 d_lw_365 d_lw_366 rfl rfl (by omega) (by omega) k) ?_
  refine LG_virtual (as := [.int (xs (i + 1)), .int (xs (i + 2))]) (rest := [.int r]) (c0 := 373) (mj := mi_Mo_begin) d_lw_367 rfl (jw_Mo_begin.jo (by decide)) lm_lw_72 ji_Mo_begin js_Mo_begin (w373 _) rfl rfl rfl (Nat.le_of_ble_eq_true rfl) (by show kc + 0 ≤ 600002; omega) (by show ks + 0 ≤ 7302198; omega) (h2 v1 hq1) (fun r1 v2 hq => ?_)
  obtain ⟨rfl, hq2⟩ := hq
  show LG b N xs G 370 [(4, .int (nI i)), (3, .ref 451), (2, .ref 373), (1, .ref 61)] [.int r, .int r] v2 kc ks
  refine LG.lift (fun _ k => G_icmp_eq d_lw_370 (tgt := 671) rfl (fun _ => k) (fun c => absurd rfl c)) ?_
  exact kk v2 hq2
theorem lc_8 {b N : Nat} {xs : Nat → Int32} {G : GX} {v : Nat → Int32} {i kc ks : Nat} {J : (Nat → Int32) → Prop} (hi : i + 6 ≤ N) (hN : N ≤ 3073) (hkc : kc + 1 ≤ 600002) (hks : ks + 6 ≤ 7302198) (h : PRI G mi_PG_answer mi_Mo_answer [.int (xs (i + 1))] v J) (kk : ∀ v2, J v2 → LG b N xs G 671 [(4, .int (nI i)), (3, .ref 451), (2, .ref 373), (1, .ref 61)] [] v2 kc ks) : LG b N xs G 375 [(4, .int (nI i)), (3, .ref 451), (2, .ref 373), (1, .ref 61)] [] v kc ks := by
  obtain ⟨r, Q1, h1, h2⟩ := h
  refine LG.lift (fun _ k => G_aload_n (v := .ref 61) d_lw_375 rfl (Or.inr ⟨_, rfl⟩) k) ?_
  refine LG.lift (fun _ k => L_ld (i := i) (k := 1) d_lw_376 d_lw_377 d_lw_379 d_lw_380 d_lw_381 rfl rfl (by omega) (by omega) k) ?_
  refine LG_virtual (as := [.int (xs (i + 1))]) (rest := []) (c0 := 61) (mj := mi_PG_answer) d_lw_382 rfl (jw_PG_answer.jo (by decide)) lm_lw_73 ji_PG_answer js_PG_answer (w61 _) rfl rfl rfl (Nat.le_of_ble_eq_true rfl) (by show kc + 0 ≤ 600002; omega) (by show ks + 0 ≤ 7302198; omega) h1 (fun r1 v1 hq => ?_)
  obtain ⟨rfl, hq1⟩ := hq
  show LG b N xs G 385 [(4, .int (nI i)), (3, .ref 451), (2, .ref 373), (1, .ref 61)] [.int r] v1 kc ks
  refine LG.lift (fun _ k => G_aload_n (v := .ref 373) d_lw_385 rfl (Or.inr ⟨_, rfl⟩) k) ?_
  refine LG.lift (fun _ k => L_ld (i := i) (k := 1) d_lw_386 d_lw_387 d_lw_389 d_lw_390 d_lw_391 rfl rfl (by omega) (by omega) k) ?_
  refine LG_virtual (as := [.int (xs (i + 1))]) (rest := [.int r]) (c0 := 373) (mj := mi_Mo_answer) d_lw_392 rfl (jw_Mo_answer.jo (by decide)) lm_lw_76 ji_Mo_answer js_Mo_answer (w373 _) rfl rfl rfl (Nat.le_of_ble_eq_true rfl) (by show kc + 0 ≤ 600002; omega) (by show ks + 0 ≤ 7302198; omega) (h2 v1 hq1) (fun r1 v2 hq => ?_)
  obtain ⟨rfl, hq2⟩ := hq
  show LG b N xs G 395 [(4, .int (nI i)), (3, .ref 451), (2, .ref 373), (1, .ref 61)] [.int r, .int r] v2 kc ks
  refine LG.lift (fun _ k => G_icmp_eq d_lw_395 (tgt := 671) rfl (fun _ => k) (fun c => absurd rfl c)) ?_
  exact kk v2 hq2
theorem lc_9 {b N : Nat} {xs : Nat → Int32} {G : GX} {v : Nat → Int32} {i kc ks : Nat} {J : (Nat → Int32) → Prop} (hi : i + 6 ≤ N) (hN : N ≤ 3073) (hkc : kc + 1 ≤ 600002) (hks : ks + 6 ≤ 7302198) (h : PRI G mi_PG_finish mi_Mo_finish [.int (xs (i + 1))] v J) (kk : ∀ v2, J v2 → LG b N xs G 671 [(4, .int (nI i)), (3, .ref 451), (2, .ref 373), (1, .ref 61)] [] v2 kc ks) : LG b N xs G 400 [(4, .int (nI i)), (3, .ref 451), (2, .ref 373), (1, .ref 61)] [] v kc ks := by
  obtain ⟨r, Q1, h1, h2⟩ := h
  refine LG.lift (fun _ k => G_aload_n (v := .ref 61) d_lw_400 rfl (Or.inr ⟨_, rfl⟩) k) ?_
  refine LG.lift (fun _ k => L_ld (i := i) (k := 1) d_lw_401 d_lw_402 d_lw_404 d_lw_405 d_lw_406 rfl rfl (by omega) (by omega) k) ?_
  refine LG_virtual (as := [.int (xs (i + 1))]) (rest := []) (c0 := 61) (mj := mi_PG_finish) d_lw_407 rfl (jw_PG_finish.jo (by decide)) lm_lw_77 ji_PG_finish js_PG_finish (w61 _) rfl rfl rfl (Nat.le_of_ble_eq_true rfl) (by show kc + 0 ≤ 600002; omega) (by show ks + 0 ≤ 7302198; omega) h1 (fun r1 v1 hq => ?_)
  obtain ⟨rfl, hq1⟩ := hq
  show LG b N xs G 410 [(4, .int (nI i)), (3, .ref 451), (2, .ref 373), (1, .ref 61)] [.int r] v1 kc ks
  refine LG.lift (fun _ k => G_aload_n (v := .ref 373) d_lw_410 rfl (Or.inr ⟨_, rfl⟩) k) ?_
  refine LG.lift (fun _ k => L_ld (i := i) (k := 1) d_lw_411 d_lw_412 d_lw_414 d_lw_415 d_lw_416 rfl rfl (by omega) (by omega) k) ?_
  refine LG_virtual (as := [.int (xs (i + 1))]) (rest := [.int r]) (c0 := 373) (mj := mi_Mo_finish) d_lw_417 rfl (jw_Mo_finish.jo (by decide)) lm_lw_80 ji_Mo_finish js_Mo_finish (w373 _) rfl rfl rfl (Nat.le_of_ble_eq_true rfl) (by show kc + 0 ≤ 600002; omega) (by show ks + 0 ≤ 7302198; omega) (h2 v1 hq1) (fun r1 v2 hq => ?_)
  obtain ⟨rfl, hq2⟩ := hq
  show LG b N xs G 420 [(4, .int (nI i)), (3, .ref 451), (2, .ref 373), (1, .ref 61)] [.int r, .int r] v2 kc ks
  refine LG.lift (fun _ k => G_icmp_eq d_lw_420 (tgt := 671) rfl (fun _ => k) (fun c => absurd rfl c)) ?_
  exact kk v2 hq2
theorem lc_10 {b N : Nat} {xs : Nat → Int32} {G : GX} {v : Nat → Int32} {i kc ks : Nat} {J : (Nat → Int32) → Prop} (hi : i + 6 ≤ N) (hN : N ≤ 3073) (hkc : kc + 1 ≤ 600002) (hks : ks + 6 ≤ 7302198) (h : PRI G mi_PG_accept mi_Mo_accept [.int (xs (i + 1))] v J) (kk : ∀ v2, J v2 → LG b N xs G 671 [(4, .int (nI i)), (3, .ref 451), (2, .ref 373), (1, .ref 61)] [] v2 kc ks) : LG b N xs G 425 [(4, .int (nI i)), (3, .ref 451), (2, .ref 373), (1, .ref 61)] [] v kc ks := by
  obtain ⟨r, Q1, h1, h2⟩ := h
  refine LG.lift (fun _ k => G_aload_n (v := .ref 61) d_lw_425 rfl (Or.inr ⟨_, rfl⟩) k) ?_
  refine LG.lift (fun _ k => L_ld (i := i) (k := 1) d_lw_426 d_lw_427 d_lw_429 d_lw_430 d_lw_431 rfl rfl (by omega) (by omega) k) ?_
  refine LG_virtual (as := [.int (xs (i + 1))]) (rest := []) (c0 := 61) (mj := mi_PG_accept) d_lw_432 rfl (jw_PG_accept.jo (by decide)) lm_lw_81 ji_PG_accept js_PG_accept (w61 _) rfl rfl rfl (Nat.le_of_ble_eq_true rfl) (by show kc + 0 ≤ 600002; omega) (by show ks + 0 ≤ 7302198; omega) h1 (fun r1 v1 hq => ?_)
  obtain ⟨rfl, hq1⟩ := hq
  show LG b N xs G 435 [(4, .int (nI i)), (3, .ref 451), (2, .ref 373), (1, .ref 61)] [.int r] v1 kc ks
  refine LG.lift (fun _ k => G_aload_n (v := .ref 373) d_lw_435 rfl (Or.inr ⟨_, rfl⟩) k) ?_
  refine LG.lift (fun _ k => L_ld (i := i) (k := 1) d_lw_436 d_lw_437 d_lw_439 d_lw_440 d_lw_441 rfl rfl (by omega) (by omega) k) ?_
  refine LG_virtual (as := [.int (xs (i + 1))]) (rest := [.int r]) (c0 := 373) (mj := mi_Mo_accept) d_lw_442 rfl (jw_Mo_accept.jo (by decide)) lm_lw_84 ji_Mo_accept js_Mo_accept (w373 _) rfl rfl rfl (Nat.le_of_ble_eq_true rfl) (by show kc + 0 ≤ 600002; omega) (by show ks + 0 ≤ 7302198; omega) (h2 v1 hq1) (fun r1 v2 hq => ?_)
  obtain ⟨rfl, hq2⟩ := hq
  show LG b N xs G 445 [(4, .int (nI i)), (3, .ref 451), (2, .ref 373), (1, .ref 61)] [.int r, .int r] v2 kc ks
  refine LG.lift (fun _ k => G_icmp_eq d_lw_445 (tgt := 671) rfl (fun _ => k) (fun c => absurd rfl c)) ?_
  exact kk v2 hq2
theorem lc_11t {b N : Nat} {xs : Nat → Int32} {G : GX} {v : Nat → Int32} {i kc ks : Nat} {J : (Nat → Int32) → Prop} (hi : i + 6 ≤ N) (hN : N ≤ 3073) (hkc : kc + 1 ≤ 600002) (hks : ks + 6 ≤ 7302198) (h : PT G mt_PG_wire mi_Mo_wire [.int (xs (i + 1)), .int (xs (i + 2)), .int (xs (i + 3))] v J) (kk : ∀ v2 v3, J v2 → okv v3 → mdf [] v2 v3 → LG b N xs G 671 [(4, .int (nI i)), (3, .ref 451), (2, .ref 373), (1, .ref 61)] [] v3 (kc + 1) (ks + 6)) : LG b N xs G 450 [(4, .int (nI i)), (3, .ref 451), (2, .ref 373), (1, .ref 61)] [] v kc ks := by
  obtain ⟨Q1, h1, h2⟩ := h
  refine LG.lift (fun _ k => G_aload_n (v := .ref 61) d_lw_450 rfl (Or.inr ⟨_, rfl⟩) k) ?_
  refine LG.lift (fun _ k => L_ld (i := i) (k := 1) d_lw_451 d_lw_452 d_lw_454 d_lw_455 d_lw_456 rfl rfl (by omega) (by omega) k) ?_
  refine LG.lift (fun _ k => L_ld (i := i) (k := 2) d_lw_457 d_lw_458 d_lw_460 d_lw_461 d_lw_462 rfl rfl (by omega) (by omega) k) ?_
  refine LG.lift (fun _ k => L_ld (i := i) (k := 3) d_lw_463 d_lw_464 d_lw_466 d_lw_467 d_lw_468 rfl rfl (by omega) (by omega) k) ?_
  refine LG.lift (fun _ k => G_aload_n (v := .ref 451) d_lw_469 rfl (Or.inr ⟨_, rfl⟩) k) ?_
  refine LG_help (as := [.ref 61, .int (xs (i + 1)), .int (xs (i + 2)), .int (xs (i + 3)), .ref 451]) (rest := []) (mj := mi_lwire) (hs := [(0, 12, 15, 13)]) d_lw_470 rfl (jh_lwire (by decide)) lm_lw_85 jt_lwire rfl (by decide) (by show kc + 1 ≤ 600002; omega) (by show ks + 6 ≤ 7302198; omega) (hp_wire_thr h1) (fun r1 v1 hq => ?_)
  obtain ⟨rfl, hq1⟩ := hq
  show LG b N xs G 473 [(4, .int (nI i)), (3, .ref 451), (2, .ref 373), (1, .ref 61)] [.int (nI 1)] v1 (kc + 1) (ks + 6)
  refine LG.lift (fun _ k => G_istore (L' := [(5, .int (nI 1)), (4, .int (nI i)), (3, .ref 451), (2, .ref 373), (1, .ref 61)]) d_lw_473 (by decide) rfl rfl k) ?_
  refine LG.lift (fun _ k => G_aload_n (v := .ref 373) d_lw_475 rfl (Or.inr ⟨_, rfl⟩) k) ?_
  refine LG.lift (fun _ k => L_ld (i := i) (k := 1) d_lw_476 d_lw_477 d_lw_479 d_lw_480 d_lw_481 rfl rfl (by omega) (by omega) k) ?_
  refine LG.lift (fun _ k => L_ld (i := i) (k := 2) d_lw_482 d_lw_483 d_lw_485 d_lw_486 d_lw_487 rfl rfl (by omega) (by omega) k) ?_
  refine LG.lift (fun _ k => L_ld (i := i) (k := 3) d_lw_488 d_lw_489 d_lw_491 d_lw_492 d_lw_493 rfl rfl (by omega) (by omega) k) ?_
  refine LG_virtual (as := [.int (xs (i + 1)), .int (xs (i + 2)), .int (xs (i + 3))]) (rest := []) (c0 := 373) (mj := mi_Mo_wire) d_lw_494 rfl (jw_Mo_wire.jo (by decide)) lm_lw_88 ji_Mo_wire js_Mo_wire (w373 _) rfl rfl rfl (Nat.le_of_ble_eq_true rfl) (by show kc + 1 + 0 ≤ 600002; omega) (by show ks + 6 + 0 ≤ 7302198; omega) (h2 v1 hq1) (fun r1 v2 hq => ?_)
  obtain ⟨⟨z, rfl⟩, hv2, e66, hJ⟩ := hq
  show LG b N xs G 497 [(5, .int (nI 1)), (4, .int (nI i)), (3, .ref 451), (2, .ref 373), (1, .ref 61)] [.int z] v2 (kc + 1) (ks + 6)
  refine LG.lift (fun _ k => G_istore (L' := [(6, .int z), (5, .int (nI 1)), (4, .int (nI i)), (3, .ref 451), (2, .ref 373), (1, .ref 61)]) d_lw_497 (by decide) rfl rfl k) ?_
  refine LG.lift (fun _ k => G_aload_n (v := .ref 373) d_lw_499 rfl (Or.inr ⟨_, rfl⟩) k) ?_
  refine LG_virtual (as := []) (rest := []) (c0 := 373) (mj := mi_Mo_thrown) d_lw_500 rfl (jw_Mo_thrown.jo (by decide)) lm_lw_61 ji_Mo_thrown js_Mo_thrown (w373 _) rfl rfl rfl (Nat.le_of_ble_eq_true rfl) (by show kc + 1 + 0 ≤ 600002; omega) (by show ks + 6 + 0 ≤ 7302198; omega) (c_Mo_thrown G v2 1 e66 hv2) (fun r1 v3 hq => ?_)
  obtain ⟨rfl, hv3, hm3, -⟩ := hq
  show LG b N xs G 503 [(6, .int z), (5, .int (nI 1)), (4, .int (nI i)), (3, .ref 451), (2, .ref 373), (1, .ref 61)] [.int (nI 1)] v3 (kc + 1) (ks + 6)
  refine LG.lift (fun _ k => G_iload d_lw_503 rfl k) ?_
  refine LG.lift (fun _ k => G_icmp_eq d_lw_505 (tgt := 510) rfl (fun _ => k) (fun c => absurd rfl c)) ?_
  refine LG.lift (fun _ k => G_iload d_lw_510 rfl k) ?_
  refine LG.lift (fun _ k => G_if_ne d_lw_512 (tgt := 527) rfl (fun _ => k) (fun c => absurd c (by decide))) ?_
  refine LG.lift (fun _ k => G_goto (tgt := 671) d_lw_527 rfl k) ?_
  refine LG.lift (fun _ k => G_sub (L' := [(4, .int (nI i)), (3, .ref 451), (2, .ref 373), (1, .ref 61)]) (fun q hq => List.mem_cons_of_mem _ (List.mem_cons_of_mem _ hq)) k) ?_
  exact kk v2 v3 hJ hv3 hm3
theorem lc_12 {b N : Nat} {xs : Nat → Int32} {G : GX} {v : Nat → Int32} {i kc ks : Nat} {J : (Nat → Int32) → Prop} (hi : i + 6 ≤ N) (hN : N ≤ 3073) (hkc : kc + 1 ≤ 600002) (hks : ks + 6 ≤ 7302198) (h : PRI G mi_PG_tamper mi_Mo_tamper [.int (xs (i + 1)), .int (xs (i + 2)), .int (xs (i + 3)), .int (xs (i + 4))] v J) (kk : ∀ v2, J v2 → LG b N xs G 671 [(4, .int (nI i)), (3, .ref 451), (2, .ref 373), (1, .ref 61)] [] v2 kc ks) : LG b N xs G 530 [(4, .int (nI i)), (3, .ref 451), (2, .ref 373), (1, .ref 61)] [] v kc ks := by
  obtain ⟨r, Q1, h1, h2⟩ := h
  refine LG.lift (fun _ k => G_aload_n (v := .ref 61) d_lw_530 rfl (Or.inr ⟨_, rfl⟩) k) ?_
  refine LG.lift (fun _ k => L_ld (i := i) (k := 1) d_lw_531 d_lw_532 d_lw_534 d_lw_535 d_lw_536 rfl rfl (by omega) (by omega) k) ?_
  refine LG.lift (fun _ k => L_ld (i := i) (k := 2) d_lw_537 d_lw_538 d_lw_540 d_lw_541 d_lw_542 rfl rfl (by omega) (by omega) k) ?_
  refine LG.lift (fun _ k => L_ld (i := i) (k := 3) d_lw_543 d_lw_544 d_lw_546 d_lw_547 d_lw_548 rfl rfl (by omega) (by omega) k) ?_
  refine LG.lift (fun _ k => L_ld (i := i) (k := 4) d_lw_549 d_lw_550 d_lw_552 d_lw_553 d_lw_554 rfl rfl (by omega) (by omega) k) ?_
  refine LG_virtual (as := [.int (xs (i + 1)), .int (xs (i + 2)), .int (xs (i + 3)), .int (xs (i + 4))]) (rest := []) (c0 := 61) (mj := mi_PG_tamper) d_lw_555 rfl (jw_PG_tamper.jo (by decide)) lm_lw_89 ji_PG_tamper js_PG_tamper (w61 _) rfl rfl rfl (Nat.le_of_ble_eq_true rfl) (by show kc + 0 ≤ 600002; omega) (by show ks + 0 ≤ 7302198; omega) h1 (fun r1 v1 hq => ?_)
  obtain ⟨rfl, hq1⟩ := hq
  show LG b N xs G 558 [(4, .int (nI i)), (3, .ref 451), (2, .ref 373), (1, .ref 61)] [.int r] v1 kc ks
  refine LG.lift (fun _ k => G_aload_n (v := .ref 373) d_lw_558 rfl (Or.inr ⟨_, rfl⟩) k) ?_
  refine LG.lift (fun _ k => L_ld (i := i) (k := 1) d_lw_559 d_lw_560 d_lw_562 d_lw_563 d_lw_564 rfl rfl (by omega) (by omega) k) ?_
  refine LG.lift (fun _ k => L_ld (i := i) (k := 2) d_lw_565 d_lw_566 d_lw_568 d_lw_569 d_lw_570 rfl rfl (by omega) (by omega) k) ?_
  refine LG.lift (fun _ k => L_ld (i := i) (k := 3) d_lw_571 d_lw_572 d_lw_574 d_lw_575 d_lw_576 rfl rfl (by omega) (by omega) k) ?_
  refine LG.lift (fun _ k => L_ld (i := i) (k := 4) d_lw_577 d_lw_578 d_lw_580 d_lw_581 d_lw_582 rfl rfl (by omega) (by omega) k) ?_
  refine LG_virtual (as := [.int (xs (i + 1)), .int (xs (i + 2)), .int (xs (i + 3)), .int (xs (i + 4))]) (rest := [.int r]) (c0 := 373) (mj := mi_Mo_tamper) d_lw_583 rfl (jw_Mo_tamper.jo (by decide)) lm_lw_93 ji_Mo_tamper js_Mo_tamper (w373 _) rfl rfl rfl (Nat.le_of_ble_eq_true rfl) (by show kc + 0 ≤ 600002; omega) (by show ks + 0 ≤ 7302198; omega) (h2 v1 hq1) (fun r1 v2 hq => ?_)
  obtain ⟨rfl, hq2⟩ := hq
  show LG b N xs G 586 [(4, .int (nI i)), (3, .ref 451), (2, .ref 373), (1, .ref 61)] [.int r, .int r] v2 kc ks
  refine LG.lift (fun _ k => G_icmp_eq d_lw_586 (tgt := 671) rfl (fun _ => k) (fun c => absurd rfl c)) ?_
  exact kk v2 hq2
theorem lc_13t {b N : Nat} {xs : Nat → Int32} {G : GX} {v : Nat → Int32} {i kc ks : Nat} {J : (Nat → Int32) → Prop} (hi : i + 6 ≤ N) (hN : N ≤ 3073) (hkc : kc + 1 ≤ 600002) (hks : ks + 6 ≤ 7302198) (h : PT G mt_PG_key mi_Mo_key [.int (xs (i + 1)), .int (xs (i + 2)), .int (xs (i + 3))] v J) (kk : ∀ v2 v3, J v2 → okv v3 → mdf [] v2 v3 → LG b N xs G 671 [(4, .int (nI i)), (3, .ref 451), (2, .ref 373), (1, .ref 61)] [] v3 (kc + 1) (ks + 6)) : LG b N xs G 591 [(4, .int (nI i)), (3, .ref 451), (2, .ref 373), (1, .ref 61)] [] v kc ks := by
  obtain ⟨Q1, h1, h2⟩ := h
  refine LG.lift (fun _ k => G_aload_n (v := .ref 61) d_lw_591 rfl (Or.inr ⟨_, rfl⟩) k) ?_
  refine LG.lift (fun _ k => L_ld (i := i) (k := 1) d_lw_592 d_lw_593 d_lw_595 d_lw_596 d_lw_597 rfl rfl (by omega) (by omega) k) ?_
  refine LG.lift (fun _ k => L_ld (i := i) (k := 2) d_lw_598 d_lw_599 d_lw_601 d_lw_602 d_lw_603 rfl rfl (by omega) (by omega) k) ?_
  refine LG.lift (fun _ k => L_ld (i := i) (k := 3) d_lw_604 d_lw_605 d_lw_607 d_lw_608 d_lw_609 rfl rfl (by omega) (by omega) k) ?_
  refine LG.lift (fun _ k => G_aload_n (v := .ref 451) d_lw_610 rfl (Or.inr ⟨_, rfl⟩) k) ?_
  refine LG_help (as := [.ref 61, .int (xs (i + 1)), .int (xs (i + 2)), .int (xs (i + 3)), .ref 451]) (rest := []) (mj := mi_lkey) (hs := [(0, 12, 15, 13)]) d_lw_611 rfl (jh_lkey (by decide)) lm_lw_94 jt_lkey rfl (by decide) (by show kc + 1 ≤ 600002; omega) (by show ks + 6 ≤ 7302198; omega) (hp_key_thr h1) (fun r1 v1 hq => ?_)
  obtain ⟨rfl, hq1⟩ := hq
  show LG b N xs G 614 [(4, .int (nI i)), (3, .ref 451), (2, .ref 373), (1, .ref 61)] [.int (nI 1)] v1 (kc + 1) (ks + 6)
  refine LG.lift (fun _ k => G_istore (L' := [(5, .int (nI 1)), (4, .int (nI i)), (3, .ref 451), (2, .ref 373), (1, .ref 61)]) d_lw_614 (by decide) rfl rfl k) ?_
  refine LG.lift (fun _ k => G_aload_n (v := .ref 373) d_lw_616 rfl (Or.inr ⟨_, rfl⟩) k) ?_
  refine LG.lift (fun _ k => L_ld (i := i) (k := 1) d_lw_617 d_lw_618 d_lw_620 d_lw_621 d_lw_622 rfl rfl (by omega) (by omega) k) ?_
  refine LG.lift (fun _ k => L_ld (i := i) (k := 2) d_lw_623 d_lw_624 d_lw_626 d_lw_627 d_lw_628 rfl rfl (by omega) (by omega) k) ?_
  refine LG.lift (fun _ k => L_ld (i := i) (k := 3) d_lw_629 d_lw_630 d_lw_632 d_lw_633 d_lw_634 rfl rfl (by omega) (by omega) k) ?_
  refine LG_virtual (as := [.int (xs (i + 1)), .int (xs (i + 2)), .int (xs (i + 3))]) (rest := []) (c0 := 373) (mj := mi_Mo_key) d_lw_635 rfl (jw_Mo_key.jo (by decide)) lm_lw_96 ji_Mo_key js_Mo_key (w373 _) rfl rfl rfl (Nat.le_of_ble_eq_true rfl) (by show kc + 1 + 0 ≤ 600002; omega) (by show ks + 6 + 0 ≤ 7302198; omega) (h2 v1 hq1) (fun r1 v2 hq => ?_)
  obtain ⟨⟨z, rfl⟩, hv2, e66, hJ⟩ := hq
  show LG b N xs G 638 [(5, .int (nI 1)), (4, .int (nI i)), (3, .ref 451), (2, .ref 373), (1, .ref 61)] [.int z] v2 (kc + 1) (ks + 6)
  refine LG.lift (fun _ k => G_istore (L' := [(6, .int z), (5, .int (nI 1)), (4, .int (nI i)), (3, .ref 451), (2, .ref 373), (1, .ref 61)]) d_lw_638 (by decide) rfl rfl k) ?_
  refine LG.lift (fun _ k => G_aload_n (v := .ref 373) d_lw_640 rfl (Or.inr ⟨_, rfl⟩) k) ?_
  refine LG_virtual (as := []) (rest := []) (c0 := 373) (mj := mi_Mo_thrown) d_lw_641 rfl (jw_Mo_thrown.jo (by decide)) lm_lw_61 ji_Mo_thrown js_Mo_thrown (w373 _) rfl rfl rfl (Nat.le_of_ble_eq_true rfl) (by show kc + 1 + 0 ≤ 600002; omega) (by show ks + 6 + 0 ≤ 7302198; omega) (c_Mo_thrown G v2 1 e66 hv2) (fun r1 v3 hq => ?_)
  obtain ⟨rfl, hv3, hm3, -⟩ := hq
  show LG b N xs G 644 [(6, .int z), (5, .int (nI 1)), (4, .int (nI i)), (3, .ref 451), (2, .ref 373), (1, .ref 61)] [.int (nI 1)] v3 (kc + 1) (ks + 6)
  refine LG.lift (fun _ k => G_iload d_lw_644 rfl k) ?_
  refine LG.lift (fun _ k => G_icmp_eq d_lw_646 (tgt := 651) rfl (fun _ => k) (fun c => absurd rfl c)) ?_
  refine LG.lift (fun _ k => G_iload d_lw_651 rfl k) ?_
  refine LG.lift (fun _ k => G_if_ne d_lw_653 (tgt := 668) rfl (fun _ => k) (fun c => absurd c (by decide))) ?_
  refine LG.lift (fun _ k => G_goto (tgt := 671) d_lw_668 rfl k) ?_
  refine LG.lift (fun _ k => G_sub (L' := [(4, .int (nI i)), (3, .ref 451), (2, .ref 373), (1, .ref 61)]) (fun q hq => List.mem_cons_of_mem _ (List.mem_cons_of_mem _ hq)) k) ?_
  exact kk v2 v3 hJ hv3 hm3
theorem lc_head {b N : Nat} {xs : Nat → Int32} {G : GX} {v : Nat → Int32} {i kc ks : Nat} (hi : i < 100000) (hN : N ≤ 3073) (hkc : kc ≤ 600002) (hks : ks ≤ 7302198) (kk : i + 6 ≤ N → LG b N xs G 43 [(4, .int (nI i)), (3, .ref 451), (2, .ref 373), (1, .ref 61)] [] v kc ks) : LG b N xs G 33 [(4, .int (nI i)), (3, .ref 451), (2, .ref 373), (1, .ref 61)] [] v kc ks := by
  refine LG.lift (fun _ k => G_iload d_lw_33 rfl k) ?_
  refine LG.lift (fun _ k => L_len d_lw_35 d_lw_36 k) ?_
  refine LG.lift (fun _ k => G_bipush (v := nI 6) d_lw_37 (by decide) k) ?_
  refine LG.lift (fun _ k => G_isub d_lw_39 k) ?_
  refine LG.two (fun _ k1 k2 => G_icmp_gt d_lw_40 (tgt := 677) rfl k1 k2) (fun _ => ?_) (fun hc => ?_)
  · refine LG.lift (fun _ k => G_iconst (v := nI 1) d_lw_677 (by decide) k) ?_
    exact fun M1 f hW => G_retL d_lw_678 hkc hks
  · refine kk ?_
    by_cases h6 : 6 ≤ N
    · rw [pk_sub h6] at hc
      have hn : ¬ N - 6 < i := fun h => hc (by first | exact (nI_ltI (by omega) (by omega)).mpr h)
      omega
    · exfalso
      have h7 : N = 0 ∨ N = 1 ∨ N = 2 ∨ N = 3 ∨ N = 4 ∨ N = 5 := by omega
      have hp : (0 : Int32) ≤ nI i := nI_pos' (by omega)
      have hz : nI N - nI 6 < 0 := by rcases h7 with rfl | rfl | rfl | rfl | rfl | rfl <;> decide
      exact hc (by first | exact Int32.lt_of_lt_of_le hz hp | exact Int32.lt_of_lt_of_le hz hp)
def ltg (j : Nat) : Nat := ([120, 193, 218, 231, 244, 257, 313, 338, 375, 400, 425, 450, 530, 591] : List Nat).getD j 671
theorem lc_switch {b N : Nat} {xs : Nat → Int32} {G : GX} {v : Nat → Int32} {i kc ks : Nat} (hi : i + 6 ≤ N) (hN : N ≤ 3073) (kk : ∀ j, j < 14 → LG b N xs G (ltg j) [(4, .int (nI i)), (3, .ref 451), (2, .ref 373), (1, .ref 61)] [] v kc ks) (kd : LG b N xs G 671 [(4, .int (nI i)), (3, .ref 451), (2, .ref 373), (1, .ref 61)] [] v kc ks) : LG b N xs G 43 [(4, .int (nI i)), (3, .ref 451), (2, .ref 373), (1, .ref 61)] [] v kc ks := by
  refine LG.lift (fun _ k => L_ld0 (i := i) d_lw_43 d_lw_44 d_lw_46 rfl (by omega) (by omega) k) ?_
  refine LG.lift (fun _ k => G_bipush (v := nI 15) d_lw_47 (by decide) k) ?_
  refine LG.lift (fun _ k => G_iand d_lw_49 k) ?_
  obtain ⟨j, hj, e⟩ := pk_andE (xs i) (m := nI 15) 4 (by decide)
  rw [e]
  have h16 : j = 0 ∨ j = 1 ∨ j = 2 ∨ j = 3 ∨ j = 4 ∨ j = 5 ∨ j = 6 ∨ j = 7 ∨ j = 8 ∨ j = 9 ∨ j = 10 ∨ j = 11 ∨ j = 12 ∨ j = 13 ∨ j = 14 ∨ j = 15 := by omega
  rcases h16 with rfl | rfl | rfl | rfl | rfl | rfl | rfl | rfl | rfl | rfl | rfl | rfl | rfl | rfl | rfl | rfl
  · exact LG.lift (fun _ k => G_tableIn (mi := mi_lw) (off := 70) d_lw_50 (by decide) (by decide) (by decide) (tgt := 120) rfl k) (kk 0 (by decide))
  · exact LG.lift (fun _ k => G_tableIn (mi := mi_lw) (off := 143) d_lw_50 (by decide) (by decide) (by decide) (tgt := 193) rfl k) (kk 1 (by decide))
  · exact LG.lift (fun _ k => G_tableIn (mi := mi_lw) (off := 168) d_lw_50 (by decide) (by decide) (by decide) (tgt := 218) rfl k) (kk 2 (by decide))
  · exact LG.lift (fun _ k => G_tableIn (mi := mi_lw) (off := 181) d_lw_50 (by decide) (by decide) (by decide) (tgt := 231) rfl k) (kk 3 (by decide))
  · exact LG.lift (fun _ k => G_tableIn (mi := mi_lw) (off := 194) d_lw_50 (by decide) (by decide) (by decide) (tgt := 244) rfl k) (kk 4 (by decide))
  · exact LG.lift (fun _ k => G_tableIn (mi := mi_lw) (off := 207) d_lw_50 (by decide) (by decide) (by decide) (tgt := 257) rfl k) (kk 5 (by decide))
  · exact LG.lift (fun _ k => G_tableIn (mi := mi_lw) (off := 263) d_lw_50 (by decide) (by decide) (by decide) (tgt := 313) rfl k) (kk 6 (by decide))
  · exact LG.lift (fun _ k => G_tableIn (mi := mi_lw) (off := 288) d_lw_50 (by decide) (by decide) (by decide) (tgt := 338) rfl k) (kk 7 (by decide))
  · exact LG.lift (fun _ k => G_tableIn (mi := mi_lw) (off := 325) d_lw_50 (by decide) (by decide) (by decide) (tgt := 375) rfl k) (kk 8 (by decide))
  · exact LG.lift (fun _ k => G_tableIn (mi := mi_lw) (off := 350) d_lw_50 (by decide) (by decide) (by decide) (tgt := 400) rfl k) (kk 9 (by decide))
  · exact LG.lift (fun _ k => G_tableIn (mi := mi_lw) (off := 375) d_lw_50 (by decide) (by decide) (by decide) (tgt := 425) rfl k) (kk 10 (by decide))
  · exact LG.lift (fun _ k => G_tableIn (mi := mi_lw) (off := 400) d_lw_50 (by decide) (by decide) (by decide) (tgt := 450) rfl k) (kk 11 (by decide))
  · exact LG.lift (fun _ k => G_tableIn (mi := mi_lw) (off := 480) d_lw_50 (by decide) (by decide) (by decide) (tgt := 530) rfl k) (kk 12 (by decide))
  · exact LG.lift (fun _ k => G_tableIn (mi := mi_lw) (off := 541) d_lw_50 (by decide) (by decide) (by decide) (tgt := 591) rfl k) (kk 13 (by decide))
  · exact LG.lift (fun _ k => G_tableOut (mi := mi_lw) d_lw_50 (by decide) (tgt := 671) rfl k) kd
  · exact LG.lift (fun _ k => G_tableOut (mi := mi_lw) d_lw_50 (by decide) (tgt := 671) rfl k) kd
theorem lc_next {b N : Nat} {xs : Nat → Int32} {G : GX} {v : Nat → Int32} {i kc ks : Nat} (kk : LG b N xs G 33 [(4, .int (nI (i + 6))), (3, .ref 451), (2, .ref 373), (1, .ref 61)] [] v kc ks) : LG b N xs G 671 [(4, .int (nI i)), (3, .ref 451), (2, .ref 373), (1, .ref 61)] [] v kc ks := by
  refine LG.lift (fun _ k => G_iinc (x := nI i) (L' := [(4, .int (nI (i + 6))), (3, .ref 451), (2, .ref 373), (1, .ref 61)]) d_lw_671 (by decide) rfl (by rw [show Int32.ofInt 6 = nI 6 from rfl, nI_add]; rfl) rfl k) ?_
  exact LG.lift (fun _ k => G_goto (tgt := 33) d_lw_674 rfl k) kk

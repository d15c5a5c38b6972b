theorem lc_0 {b N : Nat} {xs : Nat → Int32} {G : GX} {v : Nat → Int32} {i kc ks : Nat} {J : (Nat → Int32) → Prop} (hi : i + 6 ≤ N) (hN : N ≤ 3073) (hkc : kc + 1 ≤ 601024) (hks : ks + 6 ≤ 7293000) (h : PA G mi_PG_feed mi_Mo_feed [.int (xs (i + 1)), .int (xs (i + 2)), .int (xs (i + 3)), .int (xs (i + 4)), .int (xs (i + 5))] v J) (kk : ∀ v2, J v2 → LG b N xs G 587 [(4, .int (nI i)), (3, .ref 451), (2, .ref 373), (1, .ref 61)] [] v2 kc ks) : LG b N xs G 120 [(4, .int (nI i)), (3, .ref 451), (2, .ref 373), (1, .ref 61)] [] v kc ks := by
  obtain ⟨Q1, h1, h2⟩ := h
  refine LG.lift (fun _ k => G_aload_n (v := .ref 61) d_lw_120 rfl (Or.inr ⟨_, rfl⟩) k) ?_
  refine LG.lift (fun _ k => L_ld (i := i) (k := 1) d_lw_121 d_lw_122 d_lw_124 d_lw_125 d_lw_126 rfl rfl (by omega) (by omega) k) ?_
  refine LG.lift (fun _ k => L_ld (i := i) (k := 2) d_lw_127 d_lw_128 d_lw_130 d_lw_131 d_lw_132 rfl rfl (by omega) (by omega) k) ?_
  refine LG.lift (fun _ k => L_ld (i := i) (k := 3) d_lw_133 d_lw_134 d_lw_136 d_lw_137 d_lw_138 rfl rfl (by omega) (by omega) k) ?_
  refine LG.lift (fun _ k => L_ld (i := i) (k := 4) d_lw_139 d_lw_140 d_lw_142 d_lw_143 d_lw_144 rfl rfl (by omega) (by omega) k) ?_
  refine LG.lift (fun _ k => L_ld (i := i) (k := 5) d_lw_145 d_lw_146 d_lw_148 d_lw_149 d_lw_150 rfl rfl (by omega) (by omega) k) ?_
  refine LG_virtual (as := [.int (xs (i + 1)), .int (xs (i + 2)), .int (xs (i + 3)), .int (xs (i + 4)), .int (xs (i + 5))]) (rest := []) (c0 := 61) (mj := mi_PG_feed) d_lw_151 rfl (jw_PG_feed.jo (by decide)) lm_lw_34 ji_PG_feed js_PG_feed (w61 _) rfl rfl rfl (Nat.le_of_ble_eq_true rfl) (by show kc + 0 ≤ 601024; omega) (by show ks + 0 ≤ 7293000; omega) h1 (fun r1 v1 hq => ?_)
  obtain ⟨⟨z1, rfl⟩, hq1⟩ := hq
  show LG b N xs G 154 [(4, .int (nI i)), (3, .ref 451), (2, .ref 373), (1, .ref 61)] [.int z1] v1 kc ks
  refine LG.lift (fun _ k => G_pop d_lw_154 rfl k) ?_
  refine LG.lift (fun _ k => G_aload_n (v := .ref 373) d_lw_155 rfl (Or.inr ⟨_, rfl⟩) k) ?_
  refine LG.lift (fun _ k => L_ld (i := i) (k := 1) d_lw_156 d_lw_157 d_lw_159 d_lw_160 d_lw_161 rfl rfl (by omega) (by omega) k) ?_
  refine LG.lift (fun _ k => L_ld (i := i) (k := 2) d_lw_162 d_lw_163 d_lw_165 d_lw_166 d_lw_167 rfl rfl (by omega) (by omega) k) ?_
  refine LG.lift (fun _ k => L_ld (i := i) (k := 3) d_lw_168 d_lw_169 d_lw_171 d_lw_172 d_lw_173 rfl rfl (by omega) (by omega) k) ?_
  refine LG.lift (fun _ k => L_ld (i := i) (k := 4) d_lw_174 d_lw_175 d_lw_177 d_lw_178 d_lw_179 rfl rfl (by omega) (by omega) k) ?_
  refine LG.lift (fun _ k => L_ld (i := i) (k := 5) d_lw_180 d_lw_181 d_lw_183 d_lw_184 d_lw_185 rfl rfl (by omega) (by omega) k) ?_
  refine LG_virtual (as := [.int (xs (i + 1)), .int (xs (i + 2)), .int (xs (i + 3)), .int (xs (i + 4)), .int (xs (i + 5))]) (rest := []) (c0 := 373) (mj := mi_Mo_feed) d_lw_186 rfl (jw_Mo_feed.jo (by decide)) lm_lw_38 ji_Mo_feed js_Mo_feed (w373 _) rfl rfl rfl (Nat.le_of_ble_eq_true rfl) (by show kc + 0 ≤ 601024; omega) (by show ks + 0 ≤ 7293000; omega) (h2 v1 hq1) (fun r1 v2 hq => ?_)
  obtain ⟨⟨z2, rfl⟩, hq2⟩ := hq
  show LG b N xs G 189 [(4, .int (nI i)), (3, .ref 451), (2, .ref 373), (1, .ref 61)] [.int z2] v2 kc ks
  refine LG.lift (fun _ k => G_pop d_lw_189 rfl k) ?_
  refine LG.lift (fun _ k => G_goto (tgt := 587) d_lw_190 rfl k) ?_
  exact kk v2 hq2
theorem lc_1 {b N : Nat} {xs : Nat → Int32} {G : GX} {v : Nat → Int32} {i kc ks : Nat} {J : (Nat → Int32) → Prop} (hi : i + 6 ≤ N) (hN : N ≤ 3073) (hkc : kc + 1 ≤ 601024) (hks : ks + 6 ≤ 7293000) (h : PA G mi_PG_end mi_Mo_end [.int (xs (i + 1))] v J) (kk : ∀ v2, J v2 → LG b N xs G 587 [(4, .int (nI i)), (3, .ref 451), (2, .ref 373), (1, .ref 61)] [] v2 kc ks) : LG b N xs G 193 [(4, .int (nI i)), (3, .ref 451), (2, .ref 373), (1, .ref 61)] [] v kc ks := by
  obtain ⟨Q1, h1, h2⟩ := h
  refine LG.lift (fun _ k => G_aload_n (v := .ref 61) d_lw_193 rfl (Or.inr ⟨_, rfl⟩) k) ?_
  refine LG.lift (fun _ k => L_ld (i := i) (k := 1) d_lw_194 d_lw_195 d_lw_197 d_lw_198 d_lw_199 rfl rfl (by omega) (by omega) k) ?_
  refine LG_virtual (as := [.int (xs (i + 1))]) (rest := []) (c0 := 61) (mj := mi_PG_end) d_lw_200 rfl (jw_PG_end.jo (by decide)) lm_lw_39 ji_PG_end js_PG_end (w61 _) rfl rfl rfl (Nat.le_of_ble_eq_true rfl) (by show kc + 0 ≤ 601024; omega) (by show ks + 0 ≤ 7293000; omega) h1 (fun r1 v1 hq => ?_)
  obtain ⟨⟨z1, rfl⟩, hq1⟩ := hq
  show LG b N xs G 203 [(4, .int (nI i)), (3, .ref 451), (2, .ref 373), (1, .ref 61)] [.int z1] v1 kc ks
  refine LG.lift (fun _ k => G_pop d_lw_203 rfl k) ?_
  refine LG.lift (fun _ k => G_aload_n (v := .ref 373) d_lw_204 rfl (Or.inr ⟨_, rfl⟩) k) ?_
  refine LG.lift (fun _ k => L_ld (i := i) (k := 1) d_lw_205 d_lw_206 d_lw_208 d_lw_209 d_lw_210 rfl rfl (by omega) (by omega) k) ?_
  refine LG_virtual (as := [.int (xs (i + 1))]) (rest := []) (c0 := 373) (mj := mi_Mo_end) d_lw_211 rfl (jw_Mo_end.jo (by decide)) lm_lw_43 ji_Mo_end js_Mo_end (w373 _) rfl rfl rfl (Nat.le_of_ble_eq_true rfl) (by show kc + 0 ≤ 601024; omega) (by show ks + 0 ≤ 7293000; omega) (h2 v1 hq1) (fun r1 v2 hq => ?_)
  obtain ⟨⟨z2, rfl⟩, hq2⟩ := hq
  show LG b N xs G 214 [(4, .int (nI i)), (3, .ref 451), (2, .ref 373), (1, .ref 61)] [.int z2] v2 kc ks
  refine LG.lift (fun _ k => G_pop d_lw_214 rfl k) ?_
  refine LG.lift (fun _ k => G_goto (tgt := 587) d_lw_215 rfl k) ?_
  exact kk v2 hq2
theorem lc_2 {b N : Nat} {xs : Nat → Int32} {G : GX} {v : Nat → Int32} {i kc ks : Nat} {J : (Nat → Int32) → Prop} (hi : i + 6 ≤ N) (hN : N ≤ 3073) (hkc : kc + 1 ≤ 601024) (hks : ks + 6 ≤ 7293000) (h : PA G mi_PG_hash mi_Mo_hash [] v J) (kk : ∀ v2, J v2 → LG b N xs G 587 [(4, .int (nI i)), (3, .ref 451), (2, .ref 373), (1, .ref 61)] [] v2 kc ks) : LG b N xs G 218 [(4, .int (nI i)), (3, .ref 451), (2, .ref 373), (1, .ref 61)] [] v kc ks := by
  obtain ⟨Q1, h1, h2⟩ := h
  refine LG.lift (fun _ k => G_aload_n (v := .ref 61) d_lw_218 rfl (Or.inr ⟨_, rfl⟩) k) ?_
  refine LG_virtual (as := []) (rest := []) (c0 := 61) (mj := mi_PG_hash) d_lw_219 rfl (jw_PG_hash.jo (by decide)) lm_lw_44 ji_PG_hash js_PG_hash (w61 _) rfl rfl rfl (Nat.le_of_ble_eq_true rfl) (by show kc + 0 ≤ 601024; omega) (by show ks + 0 ≤ 7293000; omega) h1 (fun r1 v1 hq => ?_)
  obtain ⟨⟨z1, rfl⟩, hq1⟩ := hq
  show LG b N xs G 222 [(4, .int (nI i)), (3, .ref 451), (2, .ref 373), (1, .ref 61)] [.int z1] v1 kc ks
  refine LG.lift (fun _ k => G_pop d_lw_222 rfl k) ?_
  refine LG.lift (fun _ k => G_aload_n (v := .ref 373) d_lw_223 rfl (Or.inr ⟨_, rfl⟩) k) ?_
  refine LG_virtual (as := []) (rest := []) (c0 := 373) (mj := mi_Mo_hash) d_lw_224 rfl (jw_Mo_hash.jo (by decide)) lm_lw_48 ji_Mo_hash js_Mo_hash (w373 _) rfl rfl rfl (Nat.le_of_ble_eq_true rfl) (by show kc + 0 ≤ 601024; omega) (by show ks + 0 ≤ 7293000; omega) (h2 v1 hq1) (fun r1 v2 hq => ?_)
  obtain ⟨⟨z2, rfl⟩, hq2⟩ := hq
  show LG b N xs G 227 [(4, .int (nI i)), (3, .ref 451), (2, .ref 373), (1, .ref 61)] [.int z2] v2 kc ks
  refine LG.lift (fun _ k => G_pop d_lw_227 rfl k) ?_
  refine LG.lift (fun _ k => G_goto (tgt := 587) d_lw_228 rfl k) ?_
  exact kk v2 hq2
theorem lc_3 {b N : Nat} {xs : Nat → Int32} {G : GX} {v : Nat → Int32} {i kc ks : Nat} {J : (Nat → Int32) → Prop} (hi : i + 6 ≤ N) (hN : N ≤ 3073) (hkc : kc + 1 ≤ 601024) (hks : ks + 6 ≤ 7293000) (h : PA G mi_PG_group mi_Mo_group [] v J) (kk : ∀ v2, J v2 → LG b N xs G 587 [(4, .int (nI i)), (3, .ref 451), (2, .ref 373), (1, .ref 61)] [] v2 kc ks) : LG b N xs G 231 [(4, .int (nI i)), (3, .ref 451), (2, .ref 373), (1, .ref 61)] [] v kc ks := by
  obtain ⟨Q1, h1, h2⟩ := h
  refine LG.lift (fun _ k => G_aload_n (v := .ref 61) d_lw_231 rfl (Or.inr ⟨_, rfl⟩) k) ?_
  refine LG_virtual (as := []) (rest := []) (c0 := 61) (mj := mi_PG_group) d_lw_232 rfl (jw_PG_group.jo (by decide)) lm_lw_49 ji_PG_group js_PG_group (w61 _) rfl rfl rfl (Nat.le_of_ble_eq_true rfl) (by show kc + 0 ≤ 601024; omega) (by show ks + 0 ≤ 7293000; omega) h1 (fun r1 v1 hq => ?_)
  obtain ⟨⟨z1, rfl⟩, hq1⟩ := hq
  show LG b N xs G 235 [(4, .int (nI i)), (3, .ref 451), (2, .ref 373), (1, .ref 61)] [.int z1] v1 kc ks
  refine LG.lift (fun _ k => G_pop d_lw_235 rfl k) ?_
  refine LG.lift (fun _ k => G_aload_n (v := .ref 373) d_lw_236 rfl (Or.inr ⟨_, rfl⟩) k) ?_
  refine LG_virtual (as := []) (rest := []) (c0 := 373) (mj := mi_Mo_group) d_lw_237 rfl (jw_Mo_group.jo (by decide)) lm_lw_52 ji_Mo_group js_Mo_group (w373 _) rfl rfl rfl (Nat.le_of_ble_eq_true rfl) (by show kc + 0 ≤ 601024; omega) (by show ks + 0 ≤ 7293000; omega) (h2 v1 hq1) (fun r1 v2 hq => ?_)
  obtain ⟨⟨z2, rfl⟩, hq2⟩ := hq
  show LG b N xs G 240 [(4, .int (nI i)), (3, .ref 451), (2, .ref 373), (1, .ref 61)] [.int z2] v2 kc ks
  refine LG.lift (fun _ k => G_pop d_lw_240 rfl k) ?_
  refine LG.lift (fun _ k => G_goto (tgt := 587) d_lw_241 rfl k) ?_
  exact kk v2 hq2
theorem lc_4 {b N : Nat} {xs : Nat → Int32} {G : GX} {v : Nat → Int32} {i kc ks : Nat} {J : (Nat → Int32) → Prop} (hi : i + 6 ≤ N) (hN : N ≤ 3073) (hkc : kc + 1 ≤ 601024) (hks : ks + 6 ≤ 7293000) (h : PA G mi_PG_times mi_Mo_times [] v J) (kk : ∀ v2, J v2 → LG b N xs G 587 [(4, .int (nI i)), (3, .ref 451), (2, .ref 373), (1, .ref 61)] [] v2 kc ks) : LG b N xs G 244 [(4, .int (nI i)), (3, .ref 451), (2, .ref 373), (1, .ref 61)] [] v kc ks := by
  obtain ⟨Q1, h1, h2⟩ := h
  refine LG.lift (fun _ k => G_aload_n (v := .ref 61) d_lw_244 rfl (Or.inr ⟨_, rfl⟩) k) ?_
  refine LG_virtual (as := []) (rest := []) (c0 := 61) (mj := mi_PG_times) d_lw_245 rfl (jw_PG_times.jo (by decide)) lm_lw_53 ji_PG_times js_PG_times (w61 _) rfl rfl rfl (Nat.le_of_ble_eq_true rfl) (by show kc + 0 ≤ 601024; omega) (by show ks + 0 ≤ 7293000; omega) h1 (fun r1 v1 hq => ?_)
  obtain ⟨⟨z1, rfl⟩, hq1⟩ := hq
  show LG b N xs G 248 [(4, .int (nI i)), (3, .ref 451), (2, .ref 373), (1, .ref 61)] [.int z1] v1 kc ks
  refine LG.lift (fun _ k => G_pop d_lw_248 rfl k) ?_
  refine LG.lift (fun _ k => G_aload_n (v := .ref 373) d_lw_249 rfl (Or.inr ⟨_, rfl⟩) k) ?_
  refine LG_virtual (as := []) (rest := []) (c0 := 373) (mj := mi_Mo_times) d_lw_250 rfl (jw_Mo_times.jo (by decide)) lm_lw_56 ji_Mo_times js_Mo_times (w373 _) rfl rfl rfl (Nat.le_of_ble_eq_true rfl) (by show kc + 0 ≤ 601024; omega) (by show ks + 0 ≤ 7293000; omega) (h2 v1 hq1) (fun r1 v2 hq => ?_)
  obtain ⟨⟨z2, rfl⟩, hq2⟩ := hq
  show LG b N xs G 253 [(4, .int (nI i)), (3, .ref 451), (2, .ref 373), (1, .ref 61)] [.int z2] v2 kc ks
  refine LG.lift (fun _ k => G_pop d_lw_253 rfl k) ?_
  refine LG.lift (fun _ k => G_goto (tgt := 587) d_lw_254 rfl k) ?_
  exact kk v2 hq2
theorem lc_5t {b N : Nat} {xs : Nat → Int32} {G : GX} {v : Nat → Int32} {i kc ks : Nat} {J : (Nat → Int32) → Prop} (hi : i + 6 ≤ N) (hN : N ≤ 3073) (hkc : kc + 1 ≤ 601024) (hks : ks + 6 ≤ 7293000) {Q1 : (Nat → Int32) → Prop} (h1 : CSx G mt_PG_result (.ref 61 :: [.int (xs (i + 1))]) v (fun _ v' => Q1 v')) (h2 : ∀ v', Q1 v' → CS G mi_Mo_result (.ref 373 :: [.int (xs (i + 1))]) v' (fun r' v'' => (∃ z : Int32, r' = some (.int z)) ∧ J v'')) (kk : ∀ v2, J v2 → LG b N xs G 587 [(4, .int (nI i)), (3, .ref 451), (2, .ref 373), (1, .ref 61)] [] v2 (kc + 1) (ks + 6)) : LG b N xs G 257 [(4, .int (nI i)), (3, .ref 451), (2, .ref 373), (1, .ref 61)] [] v kc ks := by
  refine LG.lift (fun _ k => G_aload_n (v := .ref 61) d_lw_257 rfl (Or.inr ⟨_, rfl⟩) k) ?_
  refine LG.lift (fun _ k => L_ld (i := i) (k := 1) d_lw_258 d_lw_259 d_lw_261 d_lw_262 d_lw_263 rfl rfl (by omega) (by omega) k) ?_
  refine LG.lift (fun _ k => G_aload_n (v := .ref 451) d_lw_264 rfl (Or.inr ⟨_, rfl⟩) k) ?_
  refine LG_help (as := [.ref 61, .int (xs (i + 1)), .ref 451]) (rest := []) (mj := mi_lresult) (hs := [(0, 9, 12, 13)]) d_lw_265 rfl (jh_lresult (by decide)) lm_lw_57 jt_lresult rfl (by decide) (by show kc + 1 ≤ 601024; omega) (by show ks + 6 ≤ 7293000; omega) (hp_result_thr h1) (fun r1 v1 hq => ?_)
  obtain ⟨rfl, hq1⟩ := hq
  show LG b N xs G 268 [(4, .int (nI i)), (3, .ref 451), (2, .ref 373), (1, .ref 61)] [.int (nI 1)] v1 (kc + 1) (ks + 6)
  refine LG.lift (fun _ k => G_istore (L' := [(5, .int (nI 1)), (4, .int (nI i)), (3, .ref 451), (2, .ref 373), (1, .ref 61)]) d_lw_268 (by decide) rfl rfl k) ?_
  refine LG.lift (fun _ k => G_aload_n (v := .ref 373) d_lw_270 rfl (Or.inr ⟨_, rfl⟩) k) ?_
  refine LG.lift (fun _ k => L_ld (i := i) (k := 1) d_lw_271 d_lw_272 d_lw_274 d_lw_275 d_lw_276 rfl rfl (by omega) (by omega) k) ?_
  refine LG_virtual (as := [.int (xs (i + 1))]) (rest := []) (c0 := 373) (mj := mi_Mo_result) d_lw_277 rfl (jw_Mo_result.jo (by decide)) lm_lw_60 ji_Mo_result js_Mo_result (w373 _) rfl rfl rfl (Nat.le_of_ble_eq_true rfl) (by show kc + 1 + 0 ≤ 601024; omega) (by show ks + 6 + 0 ≤ 7293000; omega) (h2 v1 hq1) (fun r1 v2 hq => ?_)
  obtain ⟨⟨z, rfl⟩, hJ⟩ := hq
  show LG b N xs G 280 [(5, .int (nI 1)), (4, .int (nI i)), (3, .ref 451), (2, .ref 373), (1, .ref 61)] [.int z] v2 (kc + 1) (ks + 6)
  refine LG.lift (fun _ k => G_istore (L' := [(6, .int z), (5, .int (nI 1)), (4, .int (nI i)), (3, .ref 451), (2, .ref 373), (1, .ref 61)]) d_lw_280 (by decide) rfl rfl k) ?_
  refine LG.lift (fun _ k => G_goto (tgt := 587) d_lw_282 rfl k) ?_
  refine LG.lift (fun _ k => G_sub (L' := [(4, .int (nI i)), (3, .ref 451), (2, .ref 373), (1, .ref 61)]) (fun q hq => List.mem_cons_of_mem _ (List.mem_cons_of_mem _ hq)) k) ?_
  exact kk v2 hJ
theorem lc_5r {b N : Nat} {xs : Nat → Int32} {G : GX} {v : Nat → Int32} {i kc ks : Nat} {J : (Nat → Int32) → Prop} (hi : i + 6 ≤ N) (hN : N ≤ 3073) (hkc : kc + 1 ≤ 601024) (hks : ks + 6 ≤ 7293000) {Q1 : (Nat → Int32) → Prop} (h1 : CS G mi_PG_result (.ref 61 :: [.int (xs (i + 1))]) v (fun r' v' => (∃ z : Int32, r' = some (.int z)) ∧ Q1 v')) (h2 : ∀ v', Q1 v' → CS G mi_Mo_result (.ref 373 :: [.int (xs (i + 1))]) v' (fun r' v'' => (∃ z : Int32, r' = some (.int z)) ∧ J v'')) (kk : ∀ v2, J v2 → LG b N xs G 587 [(4, .int (nI i)), (3, .ref 451), (2, .ref 373), (1, .ref 61)] [] v2 (kc + 1) (ks + 6)) : LG b N xs G 257 [(4, .int (nI i)), (3, .ref 451), (2, .ref 373), (1, .ref 61)] [] v kc ks := by
  refine LG.lift (fun _ k => G_aload_n (v := .ref 61) d_lw_257 rfl (Or.inr ⟨_, rfl⟩) k) ?_
  refine LG.lift (fun _ k => L_ld (i := i) (k := 1) d_lw_258 d_lw_259 d_lw_261 d_lw_262 d_lw_263 rfl rfl (by omega) (by omega) k) ?_
  refine LG.lift (fun _ k => G_aload_n (v := .ref 451) d_lw_264 rfl (Or.inr ⟨_, rfl⟩) k) ?_
  refine LG_help (as := [.ref 61, .int (xs (i + 1)), .ref 451]) (rest := []) (mj := mi_lresult) (hs := [(0, 9, 12, 13)]) d_lw_265 rfl (jh_lresult (by decide)) lm_lw_57 jt_lresult rfl (by decide) (by show kc + 1 ≤ 601024; omega) (by show ks + 6 ≤ 7293000; omega) (hp_result_ret h1) (fun r1 v1 hq => ?_)
  obtain ⟨rfl, hq1⟩ := hq
  show LG b N xs G 268 [(4, .int (nI i)), (3, .ref 451), (2, .ref 373), (1, .ref 61)] [.int (nI 0)] v1 (kc + 1) (ks + 6)
  refine LG.lift (fun _ k => G_istore (L' := [(5, .int (nI 0)), (4, .int (nI i)), (3, .ref 451), (2, .ref 373), (1, .ref 61)]) d_lw_268 (by decide) rfl rfl k) ?_
  refine LG.lift (fun _ k => G_aload_n (v := .ref 373) d_lw_270 rfl (Or.inr ⟨_, rfl⟩) k) ?_
  refine LG.lift (fun _ k => L_ld (i := i) (k := 1) d_lw_271 d_lw_272 d_lw_274 d_lw_275 d_lw_276 rfl rfl (by omega) (by omega) k) ?_
  refine LG_virtual (as := [.int (xs (i + 1))]) (rest := []) (c0 := 373) (mj := mi_Mo_result) d_lw_277 rfl (jw_Mo_result.jo (by decide)) lm_lw_60 ji_Mo_result js_Mo_result (w373 _) rfl rfl rfl (Nat.le_of_ble_eq_true rfl) (by show kc + 1 + 0 ≤ 601024; omega) (by show ks + 6 + 0 ≤ 7293000; omega) (h2 v1 hq1) (fun r1 v2 hq => ?_)
  obtain ⟨⟨z, rfl⟩, hJ⟩ := hq
  show LG b N xs G 280 [(5, .int (nI 0)), (4, .int (nI i)), (3, .ref 451), (2, .ref 373), (1, .ref 61)] [.int z] v2 (kc + 1) (ks + 6)
  refine LG.lift (fun _ k => G_istore (L' := [(6, .int z), (5, .int (nI 0)), (4, .int (nI i)), (3, .ref 451), (2, .ref 373), (1, .ref 61)]) d_lw_280 (by decide) rfl rfl k) ?_
  refine LG.lift (fun _ k => G_goto (tgt := 587) d_lw_282 rfl k) ?_
  refine LG.lift (fun _ k => G_sub (L' := [(4, .int (nI i)), (3, .ref 451), (2, .ref 373), (1, .ref 61)]) (fun q hq => List.mem_cons_of_mem _ (List.mem_cons_of_mem _ hq)) k) ?_
  exact kk v2 hJ
theorem lc_5 {b N : Nat} {xs : Nat → Int32} {G : GX} {v : Nat → Int32} {i kc ks : Nat} {J : (Nat → Int32) → Prop} (hi : i + 6 ≤ N) (hN : N ≤ 3073) (hkc : kc + 1 ≤ 601024) (hks : ks + 6 ≤ 7293000) (h : PX G mt_PG_result mi_PG_result mi_Mo_result [.int (xs (i + 1))] v J) (kk : ∀ v2, J v2 → LG b N xs G 587 [(4, .int (nI i)), (3, .ref 451), (2, .ref 373), (1, .ref 61)] [] v2 (kc + 1) (ks + 6)) : LG b N xs G 257 [(4, .int (nI i)), (3, .ref 451), (2, .ref 373), (1, .ref 61)] [] v kc ks := by
  rcases h with ⟨Q1, h1, h2⟩ | ⟨Q1, h1, h2⟩
  · exact lc_5t hi hN hkc hks h1 h2 kk
  · exact lc_5r hi hN hkc hks h1 h2 kk
theorem lc_6 {b N : Nat} {xs : Nat → Int32} {G : GX} {v : Nat → Int32} {i kc ks : Nat} {J : (Nat → Int32) → Prop} (hi : i + 6 ≤ N) (hN : N ≤ 3073) (hkc : kc + 1 ≤ 601024) (hks : ks + 6 ≤ 7293000) (h : PA G mi_PG_enroll mi_Mo_enroll [.int (xs (i + 1))] v J) (kk : ∀ v2, J v2 → LG b N xs G 587 [(4, .int (nI i)), (3, .ref 451), (2, .ref 373), (1, .ref 61)] [] v2 kc ks) : LG b N xs G 285 [(4, .int (nI i)), (3, .ref 451), (2, .ref 373), (1, .ref 61)] [] v kc ks := by
  obtain ⟨Q1, h1, h2⟩ := h
  refine LG.lift (fun _ k => G_aload_n (v := .ref 61) d_lw_285 rfl (Or.inr ⟨_, rfl⟩) k) ?_
  refine LG.lift (fun _ k => L_ld (i := i) (k := 1) d_lw_286 d_lw_287 d_lw_289 d_lw_290 d_lw_291 rfl rfl (by omega) (by omega) k) ?_
  refine LG_virtual (as := [.int (xs (i + 1))]) (rest := []) (c0 := 61) (mj := mi_PG_enroll) d_lw_292 rfl (jw_PG_enroll.jo (by decide)) lm_lw_61 ji_PG_enroll js_PG_enroll (w61 _) rfl rfl rfl (Nat.le_of_ble_eq_true rfl) (by show kc + 0 ≤ 601024; omega) (by show ks + 0 ≤ 7293000; omega) h1 (fun r1 v1 hq => ?_)
  obtain ⟨⟨z1, rfl⟩, hq1⟩ := hq
  show LG b N xs G 295 [(4, .int (nI i)), (3, .ref 451), (2, .ref 373), (1, .ref 61)] [.int z1] v1 kc ks
  refine LG.lift (fun _ k => G_pop d_lw_295 rfl k) ?_
  refine LG.lift (fun _ k => G_aload_n (v := .ref 373) d_lw_296 rfl (Or.inr ⟨_, rfl⟩) k) ?_
  refine LG.lift (fun _ k => L_ld (i := i) (k := 1) d_lw_297 d_lw_298 d_lw_300 d_lw_301 d_lw_302 rfl rfl (by omega) (by omega) k) ?_
  refine LG_virtual (as := [.int (xs (i + 1))]) (rest := []) (c0 := 373) (mj := mi_Mo_enroll) d_lw_303 rfl (jw_Mo_enroll.jo (by decide)) lm_lw_64 ji_Mo_enroll js_Mo_enroll (w373 _) rfl rfl rfl (Nat.le_of_ble_eq_true rfl) (by show kc + 0 ≤ 601024; omega) (by show ks + 0 ≤ 7293000; omega) (h2 v1 hq1) (fun r1 v2 hq => ?_)
  obtain ⟨⟨z2, rfl⟩, hq2⟩ := hq
  show LG b N xs G 306 [(4, .int (nI i)), (3, .ref 451), (2, .ref 373), (1, .ref 61)] [.int z2] v2 kc ks
  refine LG.lift (fun _ k => G_pop d_lw_306 rfl k) ?_
  refine LG.lift (fun _ k => G_goto (tgt := 587) d_lw_307 rfl k) ?_
  exact kk v2 hq2
theorem lc_7 {b N : Nat} {xs : Nat → Int32} {G : GX} {v : Nat → Int32} {i kc ks : Nat} {J : (Nat → Int32) → Prop} (hi : i + 6 ≤ N) (hN : N ≤ 3073) (hkc : kc + 1 ≤ 601024) (hks : ks + 6 ≤ 7293000) (h : PRI G mi_PG_begin mi_Mo_begin [.int (xs (i + 1)), .int (xs (i + 2))] v J) (kk : ∀ v2, J v2 → LG b N xs G 587 [(4, .int (nI i)), (3, .ref 451), (2, .ref 373), (1, .ref 61)] [] v2 kc ks) : LG b N xs G 310 [(4, .int (nI i)), (3, .ref 451), (2, .ref 373), (1, .ref 61)] [] v kc ks := by
  obtain ⟨r, Q1, h1, h2⟩ := h
  refine LG.lift (fun _ k => G_aload_n (v := .ref 61) d_lw_310 rfl (Or.inr ⟨_, rfl⟩) k) ?_
  refine LG.lift (fun _ k => L_ld (i := i) (k := 1) d_lw_311 d_lw_312 d_lw_314 d_lw_315 d_lw_316 rfl rfl (by omega) (by omega) k) ?_
  refine LG.lift (fun _ k => L_ld (i := i) (k := 2) d_lw_317 d_lw_318 d_lw_320 d_lw_321 d_lw_322 rfl rfl (by omega) (by omega) k) ?_
  refine LG_virtual (as := [.int (xs (i + 1)), .int (xs (i + 2))]) (rest := []) (c0 := 61) (mj := mi_PG_begin) d_lw_323 rfl (jw_PG_begin.jo (by decide)) lm_lw_65 ji_PG_begin js_PG_begin (w61 _) rfl rfl rfl (Nat.le_of_ble_eq_true rfl) (by show kc + 0 ≤ 601024; omega) (by show ks + 0 ≤ 7293000; omega) h1 (fun r1 v1 hq => ?_)
  obtain ⟨rfl, hq1⟩ := hq
  show LG b N xs G 326 [(4, .int (nI i)), (3, .ref 451), (2, .ref 373), (1, .ref 61)] [.int r] v1 kc ks
  refine LG.lift (fun _ k => G_aload_n (v := .ref 373) d_lw_326 rfl (Or.inr ⟨_, rfl⟩) k) ?_
  refine LG.lift (fun _ k => L_ld (i := i) (k := 1) d_lw_327 d_lw_328 d_lw_330 d_lw_331 d_lw_332 rfl rfl (by omega) (by omega) k) ?_
  refine LG.lift (fun _ k => L_ld (i := i) (k := 2) d_lw_333 d_lw_334 d_lw_336 d_lw_337 d_lw_338 rfl rfl (by omega) (by omega) k) ?_
  refine LG_virtual (as := [.int (xs (i + 1)), .int (xs (i + 2))]) (rest := [.int r]) (c0 := 373) (mj := mi_Mo_begin) d_lw_339 rfl (jw_Mo_begin.jo (by decide)) lm_lw_69 ji_Mo_begin js_Mo_begin (w373 _) rfl rfl rfl (Nat.le_of_ble_eq_true rfl) (by show kc + 0 ≤ 601024; omega) (by show ks + 0 ≤ 7293000; omega) (h2 v1 hq1) (fun r1 v2 hq => ?_)
  obtain ⟨rfl, hq2⟩ := hq
  show LG b N xs G 342 [(4, .int (nI i)), (3, .ref 451), (2, .ref 373), (1, .ref 61)] [.int r, .int r] v2 kc ks
  refine LG.lift (fun _ k => G_icmp_eq d_lw_342 (tgt := 587) rfl (fun _ => k) (fun c => absurd rfl c)) ?_
  exact kk v2 hq2
theorem lc_8 {b N : Nat} {xs : Nat → Int32} {G : GX} {v : Nat → Int32} {i kc ks : Nat} {J : (Nat → Int32) → Prop} (hi : i + 6 ≤ N) (hN : N ≤ 3073) (hkc : kc + 1 ≤ 601024) (hks : ks + 6 ≤ 7293000) (h : PA G mi_PG_answer mi_Mo_answer [.int (xs (i + 1))] v J) (kk : ∀ v2, J v2 → LG b N xs G 587 [(4, .int (nI i)), (3, .ref 451), (2, .ref 373), (1, .ref 61)] [] v2 kc ks) : LG b N xs G 347 [(4, .int (nI i)), (3, .ref 451), (2, .ref 373), (1, .ref 61)] [] v kc ks := by
  obtain ⟨Q1, h1, h2⟩ := h
  refine LG.lift (fun _ k => G_aload_n (v := .ref 61) d_lw_347 rfl (Or.inr ⟨_, rfl⟩) k) ?_
  refine LG.lift (fun _ k => L_ld (i := i) (k := 1) d_lw_348 d_lw_349 d_lw_351 d_lw_352 d_lw_353 rfl rfl (by omega) (by omega) k) ?_
  refine LG_virtual (as := [.int (xs (i + 1))]) (rest := []) (c0 := 61) (mj := mi_PG_answer) d_lw_354 rfl (jw_PG_answer.jo (by decide)) lm_lw_70 ji_PG_answer js_PG_answer (w61 _) rfl rfl rfl (Nat.le_of_ble_eq_true rfl) (by show kc + 0 ≤ 601024; omega) (by show ks + 0 ≤ 7293000; omega) h1 (fun r1 v1 hq => ?_)
  obtain ⟨⟨z1, rfl⟩, hq1⟩ := hq
  show LG b N xs G 357 [(4, .int (nI i)), (3, .ref 451), (2, .ref 373), (1, .ref 61)] [.int z1] v1 kc ks
  refine LG.lift (fun _ k => G_pop d_lw_357 rfl k) ?_
  refine LG.lift (fun _ k => G_aload_n (v := .ref 373) d_lw_358 rfl (Or.inr ⟨_, rfl⟩) k) ?_
  refine LG.lift (fun _ k => L_ld (i := i) (k := 1) d_lw_359 d_lw_360 d_lw_362 d_lw_363 d_lw_364 rfl rfl (by omega) (by omega) k) ?_
  refine LG_virtual (as := [.int (xs (i + 1))]) (rest := []) (c0 := 373) (mj := mi_Mo_answer) d_lw_365 rfl (jw_Mo_answer.jo (by decide)) lm_lw_73 ji_Mo_answer js_Mo_answer (w373 _) rfl rfl rfl (Nat.le_of_ble_eq_true rfl) (by show kc + 0 ≤ 601024; omega) (by show ks + 0 ≤ 7293000; omega) (h2 v1 hq1) (fun r1 v2 hq => ?_)
  obtain ⟨⟨z2, rfl⟩, hq2⟩ := hq
  show LG b N xs G 368 [(4, .int (nI i)), (3, .ref 451), (2, .ref 373), (1, .ref 61)] [.int z2] v2 kc ks
  refine LG.lift (fun _ k => G_pop d_lw_368 rfl k) ?_
  refine LG.lift (fun _ k => G_goto (tgt := 587) d_lw_369 rfl k) ?_
  exact kk v2 hq2
theorem lc_9 {b N : Nat} {xs : Nat → Int32} {G : GX} {v : Nat → Int32} {i kc ks : Nat} {J : (Nat → Int32) → Prop} (hi : i + 6 ≤ N) (hN : N ≤ 3073) (hkc : kc + 1 ≤ 601024) (hks : ks + 6 ≤ 7293000) (h : PA G mi_PG_finish mi_Mo_finish [.int (xs (i + 1))] v J) (kk : ∀ v2, J v2 → LG b N xs G 587 [(4, .int (nI i)), (3, .ref 451), (2, .ref 373), (1, .ref 61)] [] v2 kc ks) : LG b N xs G 372 [(4, .int (nI i)), (3, .ref 451), (2, .ref 373), (1, .ref 61)] [] v kc ks := by
  obtain ⟨Q1, h1, h2⟩ := h
  refine LG.lift (fun _ k => G_aload_n (v := .ref 61) d_lw_372 rfl (Or.inr ⟨_, rfl⟩) k) ?_
  refine LG.lift (fun _ k => L_ld (i := i) (k := 1) d_lw_373 d_lw_374 d_lw_376 d_lw_377 d_lw_378 rfl rfl (by omega) (by omega) k) ?_
  refine LG_virtual (as := [.int (xs (i + 1))]) (rest := []) (c0 := 61) (mj := mi_PG_finish) d_lw_379 rfl (jw_PG_finish.jo (by decide)) lm_lw_74 ji_PG_finish js_PG_finish (w61 _) rfl rfl rfl (Nat.le_of_ble_eq_true rfl) (by show kc + 0 ≤ 601024; omega) (by show ks + 0 ≤ 7293000; omega) h1 (fun r1 v1 hq => ?_)
  obtain ⟨⟨z1, rfl⟩, hq1⟩ := hq
  show LG b N xs G 382 [(4, .int (nI i)), (3, .ref 451), (2, .ref 373), (1, .ref 61)] [.int z1] v1 kc ks
  refine LG.lift (fun _ k => G_pop d_lw_382 rfl k) ?_
  refine LG.lift (fun _ k => G_aload_n (v := .ref 373) d_lw_383 rfl (Or.inr ⟨_, rfl⟩) k) ?_
  refine LG.lift (fun _ k => L_ld (i := i) (k := 1) d_lw_384 d_lw_385 d_lw_387 d_lw_388 d_lw_389 rfl rfl (by omega) (by omega) k) ?_
  refine LG_virtual (as := [.int (xs (i + 1))]) (rest := []) (c0 := 373) (mj := mi_Mo_finish) d_lw_390 rfl (jw_Mo_finish.jo (by decide)) lm_lw_77 ji_Mo_finish js_Mo_finish (w373 _) rfl rfl rfl (Nat.le_of_ble_eq_true rfl) (by show kc + 0 ≤ 601024; omega) (by show ks + 0 ≤ 7293000; omega) (h2 v1 hq1) (fun r1 v2 hq => ?_)
  obtain ⟨⟨z2, rfl⟩, hq2⟩ := hq
  show LG b N xs G 393 [(4, .int (nI i)), (3, .ref 451), (2, .ref 373), (1, .ref 61)] [.int z2] v2 kc ks
  refine LG.lift (fun _ k => G_pop d_lw_393 rfl k) ?_
  refine LG.lift (fun _ k => G_goto (tgt := 587) d_lw_394 rfl k) ?_
  exact kk v2 hq2
theorem lc_10 {b N : Nat} {xs : Nat → Int32} {G : GX} {v : Nat → Int32} {i kc ks : Nat} {J : (Nat → Int32) → Prop} (hi : i + 6 ≤ N) (hN : N ≤ 3073) (hkc : kc + 1 ≤ 601024) (hks : ks + 6 ≤ 7293000) (h : PA G mi_PG_accept mi_Mo_accept [.int (xs (i + 1))] v J) (kk : ∀ v2, J v2 → LG b N xs G 587 [(4, .int (nI i)), (3, .ref 451), (2, .ref 373), (1, .ref 61)] [] v2 kc ks) : LG b N xs G 397 [(4, .int (nI i)), (3, .ref 451), (2, .ref 373), (1, .ref 61)] [] v kc ks := by
  obtain ⟨Q1, h1, h2⟩ := h
  refine LG.lift (fun _ k => G_aload_n (v := .ref 61) d_lw_397 rfl (Or.inr ⟨_, rfl⟩) k) ?_
  refine LG.lift (fun _ k => L_ld (i := i) (k := 1) d_lw_398 d_lw_399 d_lw_401 d_lw_402 d_lw_403 rfl rfl (by omega) (by omega) k) ?_
  refine LG_virtual (as := [.int (xs (i + 1))]) (rest := []) (c0 := 61) (mj := mi_PG_accept) d_lw_404 rfl (jw_PG_accept.jo (by decide)) lm_lw_78 ji_PG_accept js_PG_accept (w61 _) rfl rfl rfl (Nat.le_of_ble_eq_true rfl) (by show kc + 0 ≤ 601024; omega) (by show ks + 0 ≤ 7293000; omega) h1 (fun r1 v1 hq => ?_)
  obtain ⟨⟨z1, rfl⟩, hq1⟩ := hq
  show LG b N xs G 407 [(4, .int (nI i)), (3, .ref 451), (2, .ref 373), (1, .ref 61)] [.int z1] v1 kc ks
  refine LG.lift (fun _ k => G_pop d_lw_407 rfl k) ?_
  refine LG.lift (fun _ k => G_aload_n (v := .ref 373) d_lw_408 rfl (Or.inr ⟨_, rfl⟩) k) ?_
  refine LG.lift (fun _ k => L_ld (i := i) (k := 1) d_lw_409 d_lw_410 d_lw_412 d_lw_413 d_lw_414 rfl rfl (by omega) (by omega) k) ?_
  refine LG_virtual (as := [.int (xs (i + 1))]) (rest := []) (c0 := 373) (mj := mi_Mo_accept) d_lw_415 rfl (jw_Mo_accept.jo (by decide)) lm_lw_81 ji_Mo_accept js_Mo_accept (w373 _) rfl rfl rfl (Nat.le_of_ble_eq_true rfl) (by show kc + 0 ≤ 601024; omega) (by show ks + 0 ≤ 7293000; omega) (h2 v1 hq1) (fun r1 v2 hq => ?_)
  obtain ⟨⟨z2, rfl⟩, hq2⟩ := hq
  show LG b N xs G 418 [(4, .int (nI i)), (3, .ref 451), (2, .ref 373), (1, .ref 61)] [.int z2] v2 kc ks
  refine LG.lift (fun _ k => G_pop d_lw_418 rfl k) ?_
  refine LG.lift (fun _ k => G_goto (tgt := 587) d_lw_419 rfl k) ?_
  exact kk v2 hq2
theorem lc_11t {b N : Nat} {xs : Nat → Int32} {G : GX} {v : Nat → Int32} {i kc ks : Nat} {J : (Nat → Int32) → Prop} (hi : i + 6 ≤ N) (hN : N ≤ 3073) (hkc : kc + 1 ≤ 601024) (hks : ks + 6 ≤ 7293000) {Q1 : (Nat → Int32) → Prop} (h1 : CSx G mt_PG_wire (.ref 61 :: [.int (xs (i + 1)), .int (xs (i + 2)), .int (xs (i + 3))]) v (fun _ v' => Q1 v')) (h2 : ∀ v', Q1 v' → CS G mi_Mo_wire (.ref 373 :: [.int (xs (i + 1)), .int (xs (i + 2)), .int (xs (i + 3))]) v' (fun r' v'' => (∃ z : Int32, r' = some (.int z)) ∧ J v'')) (kk : ∀ v2, J v2 → LG b N xs G 587 [(4, .int (nI i)), (3, .ref 451), (2, .ref 373), (1, .ref 61)] [] v2 (kc + 1) (ks + 6)) : LG b N xs G 422 [(4, .int (nI i)), (3, .ref 451), (2, .ref 373), (1, .ref 61)] [] v kc ks := by
  refine LG.lift (fun _ k => G_aload_n (v := .ref 61) d_lw_422 rfl (Or.inr ⟨_, rfl⟩) k) ?_
  refine LG.lift (fun _ k => L_ld (i := i) (k := 1) d_lw_423 d_lw_424 d_lw_426 d_lw_427 d_lw_428 rfl rfl (by omega) (by omega) k) ?_
  refine LG.lift (fun _ k => L_ld (i := i) (k := 2) d_lw_429 d_lw_430 d_lw_432 d_lw_433 d_lw_434 rfl rfl (by omega) (by omega) k) ?_
  refine LG.lift (fun _ k => L_ld (i := i) (k := 3) d_lw_435 d_lw_436 d_lw_438 d_lw_439 d_lw_440 rfl rfl (by omega) (by omega) k) ?_
  refine LG.lift (fun _ k => G_aload_n (v := .ref 451) d_lw_441 rfl (Or.inr ⟨_, rfl⟩) k) ?_
  refine LG_help (as := [.ref 61, .int (xs (i + 1)), .int (xs (i + 2)), .int (xs (i + 3)), .ref 451]) (rest := []) (mj := mi_lwire) (hs := [(0, 12, 15, 13)]) d_lw_442 rfl (jh_lwire (by decide)) lm_lw_82 jt_lwire rfl (by decide) (by show kc + 1 ≤ 601024; omega) (by show ks + 6 ≤ 7293000; omega) (hp_wire_thr h1) (fun r1 v1 hq => ?_)
  obtain ⟨rfl, hq1⟩ := hq
  show LG b N xs G 445 [(4, .int (nI i)), (3, .ref 451), (2, .ref 373), (1, .ref 61)] [.int (nI 1)] v1 (kc + 1) (ks + 6)
  refine LG.lift (fun _ k => G_istore (L' := [(5, .int (nI 1)), (4, .int (nI i)), (3, .ref 451), (2, .ref 373), (1, .ref 61)]) d_lw_445 (by decide) rfl rfl k) ?_
  refine LG.lift (fun _ k => G_aload_n (v := .ref 373) d_lw_447 rfl (Or.inr ⟨_, rfl⟩) k) ?_
  refine LG.lift (fun _ k => L_ld (i := i) (k := 1) d_lw_448 d_lw_449 d_lw_451 d_lw_452 d_lw_453 rfl rfl (by omega) (by omega) k) ?_
  refine LG.lift (fun _ k => L_ld (i := i) (k := 2) d_lw_454 d_lw_455 d_lw_457 d_lw_458 d_lw_459 rfl rfl (by omega) (by omega) k) ?_
  refine LG.lift (fun _ k => L_ld (i := i) (k := 3) d_lw_460 d_lw_461 d_lw_463 d_lw_464 d_lw_465 rfl rfl (by omega) (by omega) k) ?_
  refine LG_virtual (as := [.int (xs (i + 1)), .int (xs (i + 2)), .int (xs (i + 3))]) (rest := []) (c0 := 373) (mj := mi_Mo_wire) d_lw_466 rfl (jw_Mo_wire.jo (by decide)) lm_lw_85 ji_Mo_wire js_Mo_wire (w373 _) rfl rfl rfl (Nat.le_of_ble_eq_true rfl) (by show kc + 1 + 0 ≤ 601024; omega) (by show ks + 6 + 0 ≤ 7293000; omega) (h2 v1 hq1) (fun r1 v2 hq => ?_)
  obtain ⟨⟨z, rfl⟩, hJ⟩ := hq
  show LG b N xs G 469 [(5, .int (nI 1)), (4, .int (nI i)), (3, .ref 451), (2, .ref 373), (1, .ref 61)] [.int z] v2 (kc + 1) (ks + 6)
  refine LG.lift (fun _ k => G_istore (L' := [(6, .int z), (5, .int (nI 1)), (4, .int (nI i)), (3, .ref 451), (2, .ref 373), (1, .ref 61)]) d_lw_469 (by decide) rfl rfl k) ?_
  refine LG.lift (fun _ k => G_goto (tgt := 587) d_lw_471 rfl k) ?_
  refine LG.lift (fun _ k => G_sub (L' := [(4, .int (nI i)), (3, .ref 451), (2, .ref 373), (1, .ref 61)]) (fun q hq => List.mem_cons_of_mem _ (List.mem_cons_of_mem _ hq)) k) ?_
  exact kk v2 hJ
theorem lc_11r {b N : Nat} {xs : Nat → Int32} {G : GX} {v : Nat → Int32} {i kc ks : Nat} {J : (Nat → Int32) → Prop} (hi : i + 6 ≤ N) (hN : N ≤ 3073) (hkc : kc + 1 ≤ 601024) (hks : ks + 6 ≤ 7293000) {Q1 : (Nat → Int32) → Prop} (h1 : CS G mi_PG_wire (.ref 61 :: [.int (xs (i + 1)), .int (xs (i + 2)), .int (xs (i + 3))]) v (fun r' v' => (∃ z : Int32, r' = some (.int z)) ∧ Q1 v')) (h2 : ∀ v', Q1 v' → CS G mi_Mo_wire (.ref 373 :: [.int (xs (i + 1)), .int (xs (i + 2)), .int (xs (i + 3))]) v' (fun r' v'' => (∃ z : Int32, r' = some (.int z)) ∧ J v'')) (kk : ∀ v2, J v2 → LG b N xs G 587 [(4, .int (nI i)), (3, .ref 451), (2, .ref 373), (1, .ref 61)] [] v2 (kc + 1) (ks + 6)) : LG b N xs G 422 [(4, .int (nI i)), (3, .ref 451), (2, .ref 373), (1, .ref 61)] [] v kc ks := by
  refine LG.lift (fun _ k => G_aload_n (v := .ref 61) d_lw_422 rfl (Or.inr ⟨_, rfl⟩) k) ?_
  refine LG.lift (fun _ k => L_ld (i := i) (k := 1) d_lw_423 d_lw_424 d_lw_426 d_lw_427 d_lw_428 rfl rfl (by omega) (by omega) k) ?_
  refine LG.lift (fun _ k => L_ld (i := i) (k := 2) d_lw_429 d_lw_430 d_lw_432 d_lw_433 d_lw_434 rfl rfl (by omega) (by omega) k) ?_
  refine LG.lift (fun _ k => L_ld (i := i) (k := 3) d_lw_435 d_lw_436 d_lw_438 d_lw_439 d_lw_440 rfl rfl (by omega) (by omega) k) ?_
  refine LG.lift (fun _ k => G_aload_n (v := .ref 451) d_lw_441 rfl (Or.inr ⟨_, rfl⟩) k) ?_
  refine LG_help (as := [.ref 61, .int (xs (i + 1)), .int (xs (i + 2)), .int (xs (i + 3)), .ref 451]) (rest := []) (mj := mi_lwire) (hs := [(0, 12, 15, 13)]) d_lw_442 rfl (jh_lwire (by decide)) lm_lw_82 jt_lwire rfl (by decide) (by show kc + 1 ≤ 601024; omega) (by show ks + 6 ≤ 7293000; omega) (hp_wire_ret h1) (fun r1 v1 hq => ?_)
  obtain ⟨rfl, hq1⟩ := hq
  show LG b N xs G 445 [(4, .int (nI i)), (3, .ref 451), (2, .ref 373), (1, .ref 61)] [.int (nI 0)] v1 (kc + 1) (ks + 6)
  refine LG.lift (fun _ k => G_istore (L' := [(5, .int (nI 0)), (4, .int (nI i)), (3, .ref 451), (2, .ref 373), (1, .ref 61)]) d_lw_445 (by decide) rfl rfl k) ?_
  refine LG.lift (fun _ k => G_aload_n (v := .ref 373) d_lw_447 rfl (Or.inr ⟨_, rfl⟩) k) ?_
  refine LG.lift (fun _ k => L_ld (i := i) (k := 1) d_lw_448 d_lw_449 d_lw_451 d_lw_452 d_lw_453 rfl rfl (by omega) (by omega) k) ?_
  refine LG.lift (fun _ k => L_ld (i := i) (k := 2) d_lw_454 d_lw_455 d_lw_457 d_lw_458 d_lw_459 rfl rfl (by omega) (by omega) k) ?_
  refine LG.lift (fun _ k => L_ld (i := i) (k := 3) d_lw_460 d_lw_461 d_lw_463 d_lw_464 d_lw_465 rfl rfl (by omega) (by omega) k) ?_
  refine LG_virtual (as := [.int (xs (i + 1)), .int (xs (i + 2)), .int (xs (i + 3))]) (rest := []) (c0 := 373) (mj := mi_Mo_wire) d_lw_466 rfl (jw_Mo_wire.jo (by decide)) lm_lw_85 ji_Mo_wire js_Mo_wire (w373 _) rfl rfl rfl (Nat.le_of_ble_eq_true rfl) (by show kc + 1 + 0 ≤ 601024; omega) (by show ks + 6 + 0 ≤ 7293000; omega) (h2 v1 hq1) (fun r1 v2 hq => ?_)
  obtain ⟨⟨z, rfl⟩, hJ⟩ := hq
  show LG b N xs G 469 [(5, .int (nI 0)), (4, .int (nI i)), (3, .ref 451), (2, .ref 373), (1, .ref 61)] [.int z] v2 (kc + 1) (ks + 6)
  refine LG.lift (fun _ k => G_istore (L' := [(6, .int z), (5, .int (nI 0)), (4, .int (nI i)), (3, .ref 451), (2, .ref 373), (1, .ref 61)]) d_lw_469 (by decide) rfl rfl k) ?_
  refine LG.lift (fun _ k => G_goto (tgt := 587) d_lw_471 rfl k) ?_
  refine LG.lift (fun _ k => G_sub (L' := [(4, .int (nI i)), (3, .ref 451), (2, .ref 373), (1, .ref 61)]) (fun q hq => List.mem_cons_of_mem _ (List.mem_cons_of_mem _ hq)) k) ?_
  exact kk v2 hJ
theorem lc_11 {b N : Nat} {xs : Nat → Int32} {G : GX} {v : Nat → Int32} {i kc ks : Nat} {J : (Nat → Int32) → Prop} (hi : i + 6 ≤ N) (hN : N ≤ 3073) (hkc : kc + 1 ≤ 601024) (hks : ks + 6 ≤ 7293000) (h : PX G mt_PG_wire mi_PG_wire mi_Mo_wire [.int (xs (i + 1)), .int (xs (i + 2)), .int (xs (i + 3))] v J) (kk : ∀ v2, J v2 → LG b N xs G 587 [(4, .int (nI i)), (3, .ref 451), (2, .ref 373), (1, .ref 61)] [] v2 (kc + 1) (ks + 6)) : LG b N xs G 422 [(4, .int (nI i)), (3, .ref 451), (2, .ref 373), (1, .ref 61)] [] v kc ks := by
  rcases h with ⟨Q1, h1, h2⟩ | ⟨Q1, h1, h2⟩
  · exact lc_11t hi hN hkc hks h1 h2 kk
  · exact lc_11r hi hN hkc hks h1 h2 kk
theorem lc_12 {b N : Nat} {xs : Nat → Int32} {G : GX} {v : Nat → Int32} {i kc ks : Nat} {J : (Nat → Int32) → Prop} (hi : i + 6 ≤ N) (hN : N ≤ 3073) (hkc : kc + 1 ≤ 601024) (hks : ks + 6 ≤ 7293000) (h : PA G mi_PG_tamper mi_Mo_tamper [.int (xs (i + 1)), .int (xs (i + 2)), .int (xs (i + 3)), .int (xs (i + 4))] v J) (kk : ∀ v2, J v2 → LG b N xs G 587 [(4, .int (nI i)), (3, .ref 451), (2, .ref 373), (1, .ref 61)] [] v2 kc ks) : LG b N xs G 474 [(4, .int (nI i)), (3, .ref 451), (2, .ref 373), (1, .ref 61)] [] v kc ks := by
  obtain ⟨Q1, h1, h2⟩ := h
  refine LG.lift (fun _ k => G_aload_n (v := .ref 61) d_lw_474 rfl (Or.inr ⟨_, rfl⟩) k) ?_
  refine LG.lift (fun _ k => L_ld (i := i) (k := 1) d_lw_475 d_lw_476 d_lw_478 d_lw_479 d_lw_480 rfl rfl (by omega) (by omega) k) ?_
  refine LG.lift (fun _ k => L_ld (i := i) (k := 2) d_lw_481 d_lw_482 d_lw_484 d_lw_485 d_lw_486 rfl rfl (by omega) (by omega) k) ?_
  refine LG.lift (fun _ k => L_ld (i := i) (k := 3) d_lw_487 d_lw_488 d_lw_490 d_lw_491 d_lw_492 rfl rfl (by omega) (by omega) k) ?_
  refine LG.lift (fun _ k => L_ld (i := i) (k := 4) d_lw_493 d_lw_494 d_lw_496 d_lw_497 d_lw_498 rfl rfl (by omega) (by omega) k) ?_
  refine LG_virtual (as := [.int (xs (i + 1)), .int (xs (i + 2)), .int (xs (i + 3)), .int (xs (i + 4))]) (rest := []) (c0 := 61) (mj := mi_PG_tamper) d_lw_499 rfl (jw_PG_tamper.jo (by decide)) lm_lw_86 ji_PG_tamper js_PG_tamper (w61 _) rfl rfl rfl (Nat.le_of_ble_eq_true rfl) (by show kc + 0 ≤ 601024; omega) (by show ks + 0 ≤ 7293000; omega) h1 (fun r1 v1 hq => ?_)
  obtain ⟨⟨z1, rfl⟩, hq1⟩ := hq
  show LG b N xs G 502 [(4, .int (nI i)), (3, .ref 451), (2, .ref 373), (1, .ref 61)] [.int z1] v1 kc ks
  refine LG.lift (fun _ k => G_pop d_lw_502 rfl k) ?_
  refine LG.lift (fun _ k => G_aload_n (v := .ref 373) d_lw_503 rfl (Or.inr ⟨_, rfl⟩) k) ?_
  refine LG.lift (fun _ k => L_ld (i := i) (k := 1) d_lw_504 d_lw_505 d_lw_507 d_lw_508 d_lw_509 rfl rfl (by omega) (by omega) k) ?_
  refine LG.lift (fun _ k => L_ld (i := i) (k := 2) d_lw_510 d_lw_511 d_lw_513 d_lw_514 d_lw_515 rfl rfl (by omega) (by omega) k) ?_
  refine LG.lift (fun _ k => L_ld (i := i) (k := 3) d_lw_516 d_lw_517 d_lw_519 d_lw_520 d_lw_521 rfl rfl (by omega) (by omega) k) ?_
  refine LG.lift (fun _ k => L_ld (i := i) (k := 4) d_lw_522 d_lw_523 d_lw_525 d_lw_526 d_lw_527 rfl rfl (by omega) (by omega) k) ?_
  refine LG_virtual (as := [.int (xs (i + 1)), .int (xs (i + 2)), .int (xs (i + 3)), .int (xs (i + 4))]) (rest := []) (c0 := 373) (mj := mi_Mo_tamper) d_lw_528 rfl (jw_Mo_tamper.jo (by decide)) lm_lw_90 ji_Mo_tamper js_Mo_tamper (w373 _) rfl rfl rfl (Nat.le_of_ble_eq_true rfl) (by show kc + 0 ≤ 601024; omega) (by show ks + 0 ≤ 7293000; omega) (h2 v1 hq1) (fun r1 v2 hq => ?_)
  obtain ⟨⟨z2, rfl⟩, hq2⟩ := hq
  show LG b N xs G 531 [(4, .int (nI i)), (3, .ref 451), (2, .ref 373), (1, .ref 61)] [.int z2] v2 kc ks
  refine LG.lift (fun _ k => G_pop d_lw_531 rfl k) ?_
  refine LG.lift (fun _ k => G_goto (tgt := 587) d_lw_532 rfl k) ?_
  exact kk v2 hq2
theorem lc_13t {b N : Nat} {xs : Nat → Int32} {G : GX} {v : Nat → Int32} {i kc ks : Nat} {J : (Nat → Int32) → Prop} (hi : i + 6 ≤ N) (hN : N ≤ 3073) (hkc : kc + 1 ≤ 601024) (hks : ks + 6 ≤ 7293000) {Q1 : (Nat → Int32) → Prop} (h1 : CSx G mt_PG_key (.ref 61 :: [.int (xs (i + 1)), .int (xs (i + 2)), .int (xs (i + 3))]) v (fun _ v' => Q1 v')) (h2 : ∀ v', Q1 v' → CS G mi_Mo_key (.ref 373 :: [.int (xs (i + 1)), .int (xs (i + 2)), .int (xs (i + 3))]) v' (fun r' v'' => (∃ z : Int32, r' = some (.int z)) ∧ J v'')) (kk : ∀ v2, J v2 → LG b N xs G 587 [(4, .int (nI i)), (3, .ref 451), (2, .ref 373), (1, .ref 61)] [] v2 (kc + 1) (ks + 6)) : LG b N xs G 535 [(4, .int (nI i)), (3, .ref 451), (2, .ref 373), (1, .ref 61)] [] v kc ks := by
  refine LG.lift (fun _ k => G_aload_n (v := .ref 61) d_lw_535 rfl (Or.inr ⟨_, rfl⟩) k) ?_
  refine LG.lift (fun _ k => L_ld (i := i) (k := 1) d_lw_536 d_lw_537 d_lw_539 d_lw_540 d_lw_541 rfl rfl (by omega) (by omega) k) ?_
  refine LG.lift (fun _ k => L_ld (i := i) (k := 2) d_lw_542 d_lw_543 d_lw_545 d_lw_546 d_lw_547 rfl rfl (by omega) (by omega) k) ?_
  refine LG.lift (fun _ k => L_ld (i := i) (k := 3) d_lw_548 d_lw_549 d_lw_551 d_lw_552 d_lw_553 rfl rfl (by omega) (by omega) k) ?_
  refine LG.lift (fun _ k => G_aload_n (v := .ref 451) d_lw_554 rfl (Or.inr ⟨_, rfl⟩) k) ?_
  refine LG_help (as := [.ref 61, .int (xs (i + 1)), .int (xs (i + 2)), .int (xs (i + 3)), .ref 451]) (rest := []) (mj := mi_lkey) (hs := [(0, 12, 15, 13)]) d_lw_555 rfl (jh_lkey (by decide)) lm_lw_91 jt_lkey rfl (by decide) (by show kc + 1 ≤ 601024; omega) (by show ks + 6 ≤ 7293000; omega) (hp_key_thr h1) (fun r1 v1 hq => ?_)
  obtain ⟨rfl, hq1⟩ := hq
  show LG b N xs G 558 [(4, .int (nI i)), (3, .ref 451), (2, .ref 373), (1, .ref 61)] [.int (nI 1)] v1 (kc + 1) (ks + 6)
  refine LG.lift (fun _ k => G_istore (L' := [(5, .int (nI 1)), (4, .int (nI i)), (3, .ref 451), (2, .ref 373), (1, .ref 61)]) d_lw_558 (by decide) rfl rfl k) ?_
  refine LG.lift (fun _ k => G_aload_n (v := .ref 373) d_lw_560 rfl (Or.inr ⟨_, rfl⟩) k) ?_
  refine LG.lift (fun _ k => L_ld (i := i) (k := 1) d_lw_561 d_lw_562 d_lw_564 d_lw_565 d_lw_566 rfl rfl (by omega) (by omega) k) ?_
  refine LG.lift (fun _ k => L_ld (i := i) (k := 2) d_lw_567 d_lw_568 d_lw_570 d_lw_571 d_lw_572 rfl rfl (by omega) (by omega) k) ?_
  refine LG.lift (fun _ k => L_ld (i := i) (k := 3) d_lw_573 d_lw_574 d_lw_576 d_lw_577 d_lw_578 rfl rfl (by omega) (by omega) k) ?_
  refine LG_virtual (as := [.int (xs (i + 1)), .int (xs (i + 2)), .int (xs (i + 3))]) (rest := []) (c0 := 373) (mj := mi_Mo_key) d_lw_579 rfl (jw_Mo_key.jo (by decide)) lm_lw_93 ji_Mo_key js_Mo_key (w373 _) rfl rfl rfl (Nat.le_of_ble_eq_true rfl) (by show kc + 1 + 0 ≤ 601024; omega) (by show ks + 6 + 0 ≤ 7293000; omega) (h2 v1 hq1) (fun r1 v2 hq => ?_)
  obtain ⟨⟨z, rfl⟩, hJ⟩ := hq
  show LG b N xs G 582 [(5, .int (nI 1)), (4, .int (nI i)), (3, .ref 451), (2, .ref 373), (1, .ref 61)] [.int z] v2 (kc + 1) (ks + 6)
  refine LG.lift (fun _ k => G_istore (L' := [(6, .int z), (5, .int (nI 1)), (4, .int (nI i)), (3, .ref 451), (2, .ref 373), (1, .ref 61)]) d_lw_582 (by decide) rfl rfl k) ?_
  refine LG.lift (fun _ k => G_goto (tgt := 587) d_lw_584 rfl k) ?_
  refine LG.lift (fun _ k => G_sub (L' := [(4, .int (nI i)), (3, .ref 451), (2, .ref 373), (1, .ref 61)]) (fun q hq => List.mem_cons_of_mem _ (List.mem_cons_of_mem _ hq)) k) ?_
  exact kk v2 hJ
theorem lc_13r {b N : Nat} {xs : Nat → Int32} {G : GX} {v : Nat → Int32} {i kc ks : Nat} {J : (Nat → Int32) → Prop} (hi : i + 6 ≤ N) (hN : N ≤ 3073) (hkc : kc + 1 ≤ 601024) (hks : ks + 6 ≤ 7293000) {Q1 : (Nat → Int32) → Prop} (h1 : CS G mi_PG_key (.ref 61 :: [.int (xs (i + 1)), .int (xs (i + 2)), .int (xs (i + 3))]) v (fun r' v' => (∃ z : Int32, r' = some (.int z)) ∧ Q1 v')) (h2 : ∀ v', Q1 v' → CS G mi_Mo_key (.ref 373 :: [.int (xs (i + 1)), .int (xs (i + 2)), .int (xs (i + 3))]) v' (fun r' v'' => (∃ z : Int32, r' = some (.int z)) ∧ J v'')) (kk : ∀ v2, J v2 → LG b N xs G 587 [(4, .int (nI i)), (3, .ref 451), (2, .ref 373), (1, .ref 61)] [] v2 (kc + 1) (ks + 6)) : LG b N xs G 535 [(4, .int (nI i)), (3, .ref 451), (2, .ref 373), (1, .ref 61)] [] v kc ks := by
  refine LG.lift (fun _ k => G_aload_n (v := .ref 61) d_lw_535 rfl (Or.inr ⟨_, rfl⟩) k) ?_
  refine LG.lift (fun _ k => L_ld (i := i) (k := 1) d_lw_536 d_lw_537 d_lw_539 d_lw_540 d_lw_541 rfl rfl (by omega) (by omega) k) ?_
  refine LG.lift (fun _ k => L_ld (i := i) (k := 2) d_lw_542 d_lw_543 d_lw_545 d_lw_546 d_lw_547 rfl rfl (by omega) (by omega) k) ?_
  refine LG.lift (fun _ k => L_ld (i := i) (k := 3) d_lw_548 d_lw_549 d_lw_551 d_lw_552 d_lw_553 rfl rfl (by omega) (by omega) k) ?_
  refine LG.lift (fun _ k => G_aload_n (v := .ref 451) d_lw_554 rfl (Or.inr ⟨_, rfl⟩) k) ?_
  refine LG_help (as := [.ref 61, .int (xs (i + 1)), .int (xs (i + 2)), .int (xs (i + 3)), .ref 451]) (rest := []) (mj := mi_lkey) (hs := [(0, 12, 15, 13)]) d_lw_555 rfl (jh_lkey (by decide)) lm_lw_91 jt_lkey rfl (by decide) (by show kc + 1 ≤ 601024; omega) (by show ks + 6 ≤ 7293000; omega) (hp_key_ret h1) (fun r1 v1 hq => ?_)
  obtain ⟨rfl, hq1⟩ := hq
  show LG b N xs G 558 [(4, .int (nI i)), (3, .ref 451), (2, .ref 373), (1, .ref 61)] [.int (nI 0)] v1 (kc + 1) (ks + 6)
  refine LG.lift (fun _ k => G_istore (L' := [(5, .int (nI 0)), (4, .int (nI i)), (3, .ref 451), (2, .ref 373), (1, .ref 61)]) d_lw_558 (by decide) rfl rfl k) ?_
  refine LG.lift (fun _ k => G_aload_n (v := .ref 373) d_lw_560 rfl (Or.inr ⟨_, rfl⟩) k) ?_
  refine LG.lift (fun _ k => L_ld (i := i) (k := 1) d_lw_561 d_lw_562 d_lw_564 d_lw_565 d_lw_566 rfl rfl (by omega) (by omega) k) ?_
  refine LG.lift (fun _ k => L_ld (i := i) (k := 2) d_lw_567 d_lw_568 d_lw_570 d_lw_571 d_lw_572 rfl rfl (by omega) (by omega) k) ?_
  refine LG.lift (fun _ k => L_ld (i := i) (k := 3) d_lw_573 d_lw_574 d_lw_576 d_lw_577 d_lw_578 rfl rfl (by omega) (by omega) k) ?_
  refine LG_virtual (as := [.int (xs (i + 1)), .int (xs (i + 2)), .int (xs (i + 3))]) (rest := []) (c0 := 373) (mj := mi_Mo_key) d_lw_579 rfl (jw_Mo_key.jo (by decide)) lm_lw_93 ji_Mo_key js_Mo_key (w373 _) rfl rfl rfl (Nat.le_of_ble_eq_true rfl) (by show kc + 1 + 0 ≤ 601024; omega) (by show ks + 6 + 0 ≤ 7293000; omega) (h2 v1 hq1) (fun r1 v2 hq => ?_)
  obtain ⟨⟨z, rfl⟩, hJ⟩ := hq
  show LG b N xs G 582 [(5, .int (nI 0)), (4, .int (nI i)), (3, .ref 451), (2, .ref 373), (1, .ref 61)] [.int z] v2 (kc + 1) (ks + 6)
  refine LG.lift (fun _ k => G_istore (L' := [(6, .int z), (5, .int (nI 0)), (4, .int (nI i)), (3, .ref 451), (2, .ref 373), (1, .ref 61)]) d_lw_582 (by decide) rfl rfl k) ?_
  refine LG.lift (fun _ k => G_goto (tgt := 587) d_lw_584 rfl k) ?_
  refine LG.lift (fun _ k => G_sub (L' := [(4, .int (nI i)), (3, .ref 451), (2, .ref 373), (1, .ref 61)]) (fun q hq => List.mem_cons_of_mem _ (List.mem_cons_of_mem _ hq)) k) ?_
  exact kk v2 hJ
theorem lc_13 {b N : Nat} {xs : Nat → Int32} {G : GX} {v : Nat → Int32} {i kc ks : Nat} {J : (Nat → Int32) → Prop} (hi : i + 6 ≤ N) (hN : N ≤ 3073) (hkc : kc + 1 ≤ 601024) (hks : ks + 6 ≤ 7293000) (h : PX G mt_PG_key mi_PG_key mi_Mo_key [.int (xs (i + 1)), .int (xs (i + 2)), .int (xs (i + 3))] v J) (kk : ∀ v2, J v2 → LG b N xs G 587 [(4, .int (nI i)), (3, .ref 451), (2, .ref 373), (1, .ref 61)] [] v2 (kc + 1) (ks + 6)) : LG b N xs G 535 [(4, .int (nI i)), (3, .ref 451), (2, .ref 373), (1, .ref 61)] [] v kc ks := by
  rcases h with ⟨Q1, h1, h2⟩ | ⟨Q1, h1, h2⟩
  · exact lc_13t hi hN hkc hks h1 h2 kk
  · exact lc_13r hi hN hkc hks h1 h2 kk
theorem lc_head {b N : Nat} {xs : Nat → Int32} {G : GX} {v : Nat → Int32} {i kc ks : Nat} (hi : i < 100000) (hN : N ≤ 3073) (hkc : kc ≤ 601024) (hks : ks ≤ 7293000) (kk : i + 6 ≤ N → LG b N xs G 43 [(4, .int (nI i)), (3, .ref 451), (2, .ref 373), (1, .ref 61)] [] v kc ks) : LG b N xs G 33 [(4, .int (nI i)), (3, .ref 451), (2, .ref 373), (1, .ref 61)] [] v kc ks := by
  refine LG.lift (fun _ k => G_iload d_lw_33 rfl k) ?_
  refine LG.lift (fun _ k => L_len d_lw_35 d_lw_36 k) ?_
  refine LG.lift (fun _ k => G_bipush (v := nI 6) d_lw_37 (by decide) k) ?_
  refine LG.lift (fun _ k => G_isub d_lw_39 k) ?_
  refine LG.two (fun _ k1 k2 => G_icmp_gt d_lw_40 (tgt := 593) rfl k1 k2) (fun _ => ?_) (fun hc => ?_)
  · refine LG.lift (fun _ k => G_iconst (v := nI 1) d_lw_593 (by decide) k) ?_
    exact fun M1 f hW => G_retL d_lw_594 hkc hks
  · refine kk ?_
    by_cases h6 : 6 ≤ N
    · rw [pk_sub h6] at hc
      have hn : ¬ N - 6 < i := fun h => hc ((nI_ltI (by omega) (by omega)).mpr h)
      omega
    · exfalso
      have h7 : N = 0 ∨ N = 1 ∨ N = 2 ∨ N = 3 ∨ N = 4 ∨ N = 5 := by omega
      have hp : (0 : Int32) ≤ nI i := nI_pos' (by omega)
      have hz : nI N - nI 6 < 0 := by rcases h7 with rfl | rfl | rfl | rfl | rfl | rfl <;> decide
      exact hc (Int32.lt_of_lt_of_le hz hp)
def ltg (j : Nat) : Nat := ([120, 193, 218, 231, 244, 257, 285, 310, 347, 372, 397, 422, 474, 535] : List Nat).getD j 587
theorem lc_switch {b N : Nat} {xs : Nat → Int32} {G : GX} {v : Nat → Int32} {i kc ks : Nat} (hi : i + 6 ≤ N) (hN : N ≤ 3073) (kk : ∀ j, j < 14 → LG b N xs G (ltg j) [(4, .int (nI i)), (3, .ref 451), (2, .ref 373), (1, .ref 61)] [] v kc ks) (kd : LG b N xs G 587 [(4, .int (nI i)), (3, .ref 451), (2, .ref 373), (1, .ref 61)] [] v kc ks) : LG b N xs G 43 [(4, .int (nI i)), (3, .ref 451), (2, .ref 373), (1, .ref 61)] [] v kc ks := by
  refine LG.lift (fun _ k => L_ld0 (i := i) d_lw_43 d_lw_44 d_lw_46 rfl (by omega) (by omega) k) ?_
  refine LG.lift (fun _ k => G_bipush (v := nI 15) d_lw_47 (by decide) k) ?_
  refine LG.lift (fun _ k => G_iand d_lw_49 k) ?_
  obtain ⟨j, hj, e⟩ := pk_andE (xs i) (m := nI 15) 4 (by decide)
  rw [e]
  have h16 : j = 0 ∨ j = 1 ∨ j = 2 ∨ j = 3 ∨ j = 4 ∨ j = 5 ∨ j = 6 ∨ j = 7 ∨ j = 8 ∨ j = 9 ∨ j = 10 ∨ j = 11 ∨ j = 12 ∨ j = 13 ∨ j = 14 ∨ j = 15 := by omega
  rcases h16 with rfl | rfl | rfl | rfl | rfl | rfl | rfl | rfl | rfl | rfl | rfl | rfl | rfl | rfl | rfl | rfl
  · exact LG.lift (fun _ k => G_tableIn (mi := mi_lw) (off := 70) d_lw_50 (by decide) (by decide) (by decide) (tgt := 120) rfl k) (kk 0 (by decide))
  · exact LG.lift (fun _ k => G_tableIn (mi := mi_lw) (off := 143) d_lw_50 (by decide) (by decide) (by decide) (tgt := 193) rfl k) (kk 1 (by decide))
  · exact LG.lift (fun _ k => G_tableIn (mi := mi_lw) (off := 168) d_lw_50 (by decide) (by decide) (by decide) (tgt := 218) rfl k) (kk 2 (by decide))
  · exact LG.lift (fun _ k => G_tableIn (mi := mi_lw) (off := 181) d_lw_50 (by decide) (by decide) (by decide) (tgt := 231) rfl k) (kk 3 (by decide))
  · exact LG.lift (fun _ k => G_tableIn (mi := mi_lw) (off := 194) d_lw_50 (by decide) (by decide) (by decide) (tgt := 244) rfl k) (kk 4 (by decide))
  · exact LG.lift (fun _ k => G_tableIn (mi := mi_lw) (off := 207) d_lw_50 (by decide) (by decide) (by decide) (tgt := 257) rfl k) (kk 5 (by decide))
  · exact LG.lift (fun _ k => G_tableIn (mi := mi_lw) (off := 235) d_lw_50 (by decide) (by decide) (by decide) (tgt := 285) rfl k) (kk 6 (by decide))
  · exact LG.lift (fun _ k => G_tableIn (mi := mi_lw) (off := 260) d_lw_50 (by decide) (by decide) (by decide) (tgt := 310) rfl k) (kk 7 (by decide))
  · exact LG.lift (fun _ k => G_tableIn (mi := mi_lw) (off := 297) d_lw_50 (by decide) (by decide) (by decide) (tgt := 347) rfl k) (kk 8 (by decide))
  · exact LG.lift (fun _ k => G_tableIn (mi := mi_lw) (off := 322) d_lw_50 (by decide) (by decide) (by decide) (tgt := 372) rfl k) (kk 9 (by decide))
  · exact LG.lift (fun _ k => G_tableIn (mi := mi_lw) (off := 347) d_lw_50 (by decide) (by decide) (by decide) (tgt := 397) rfl k) (kk 10 (by decide))
  · exact LG.lift (fun _ k => G_tableIn (mi := mi_lw) (off := 372) d_lw_50 (by decide) (by decide) (by decide) (tgt := 422) rfl k) (kk 11 (by decide))
  · exact LG.lift (fun _ k => G_tableIn (mi := mi_lw) (off := 424) d_lw_50 (by decide) (by decide) (by decide) (tgt := 474) rfl k) (kk 12 (by decide))
  · exact LG.lift (fun _ k => G_tableIn (mi := mi_lw) (off := 485) d_lw_50 (by decide) (by decide) (by decide) (tgt := 535) rfl k) (kk 13 (by decide))
  · exact LG.lift (fun _ k => G_tableOut (mi := mi_lw) d_lw_50 (by decide) (tgt := 587) rfl k) kd
  · exact LG.lift (fun _ k => G_tableOut (mi := mi_lw) d_lw_50 (by decide) (tgt := 587) rfl k) kd
theorem lc_next {b N : Nat} {xs : Nat → Int32} {G : GX} {v : Nat → Int32} {i kc ks : Nat} (kk : LG b N xs G 33 [(4, .int (nI (i + 6))), (3, .ref 451), (2, .ref 373), (1, .ref 61)] [] v kc ks) : LG b N xs G 587 [(4, .int (nI i)), (3, .ref 451), (2, .ref 373), (1, .ref 61)] [] v kc ks := by
  refine LG.lift (fun _ k => G_iinc (x := nI i) (L' := [(4, .int (nI (i + 6))), (3, .ref 451), (2, .ref 373), (1, .ref 61)]) d_lw_587 (by decide) rfl (by rw [show Int32.ofInt 6 = nI 6 from rfl, nI_add]; rfl) rfl k) ?_
  exact LG.lift (fun _ k => G_goto (tgt := 33) d_lw_590 rfl k) kk
theorem pn_loop {b N : Nat} {xs : Nat → Int32} {G : GX} (hN : N ≤ 3073) (hNT : G.1.stackTraces = false) : ∀ (n i kc ks : Nat) (v : Nat → Int32), N ≤ i + 6 * n → i ≤ 3079 → kc + n ≤ 3000 → ks + 6 * n ≤ 100000 → IV v → LG b N xs G 33 [(4, .int (nI i)), (3, .ref 451), (2, .ref 373), (1, .ref 61)] [] v kc ks := by
  intro n
  induction n with
  | zero => exact fun i kc ks v h1 h2 h3 h4 h5 => lc_head (by omega) hN (by omega) (by omega) (fun h => absurd h (by omega))
  | succ n ih =>
    intro i kc ks v h1 h2 h3 h4 h
    refine lc_head (by omega) hN (by omega) (by omega) (fun h6 => ?_)
    refine lc_switch h6 hN (fun j hj => ?_) (lc_next (ih (i + 6) kc ks v (by omega) (by omega) (by omega) (by omega) h))
    have h14 : j = 0 ∨ j = 1 ∨ j = 2 ∨ j = 3 ∨ j = 4 ∨ j = 5 ∨ j = 6 ∨ j = 7 ∨ j = 8 ∨ j = 9 ∨ j = 10 ∨ j = 11 ∨ j = 12 ∨ j = 13 := by omega
    rcases h14 with rfl | rfl | rfl | rfl | rfl | rfl | rfl | rfl | rfl | rfl | rfl | rfl | rfl | rfl
    · exact lc_0 h6 hN (by omega) (by omega) (aq_feed G h (xs (i + 1)) (xs (i + 2)) (xs (i + 3)) (xs (i + 4)) (xs (i + 5))).any (fun v2 q => lc_next (ih (i + 6) kc ks v2 (by omega) (by omega) (by omega) (by omega) q))
    · exact lc_1 h6 hN (by omega) (by omega) (aq_end G h (xs (i + 1))).any (fun v2 q => lc_next (ih (i + 6) kc ks v2 (by omega) (by omega) (by omega) (by omega) q))
    · exact lc_2 h6 hN (by omega) (by omega) (aq_hash G h ).any (fun v2 q => lc_next (ih (i + 6) kc ks v2 (by omega) (by omega) (by omega) (by omega) q))
    · exact lc_3 h6 hN (by omega) (by omega) (aq_group G h ).any (fun v2 q => lc_next (ih (i + 6) kc ks v2 (by omega) (by omega) (by omega) (by omega) q))
    · exact lc_4 h6 hN (by omega) (by omega) (aq_times G h ) (fun v2 q => lc_next (ih (i + 6) kc ks v2 (by omega) (by omega) (by omega) (by omega) q))
    · exact lc_5 h6 hN (by omega) (by omega) (aq_result G hNT h (xs (i + 1))) (fun v2 q => lc_next (ih (i + 6) (kc + 1) (ks + 6) v2 (by omega) (by omega) (by omega) (by omega) q))
    · exact lc_6 h6 hN (by omega) (by omega) (aq_enroll G h (xs (i + 1))).any (fun v2 q => lc_next (ih (i + 6) kc ks v2 (by omega) (by omega) (by omega) (by omega) q))
    · exact lc_7 h6 hN (by omega) (by omega) (aq_begin G h (xs (i + 1)) (xs (i + 2))) (fun v2 q => lc_next (ih (i + 6) kc ks v2 (by omega) (by omega) (by omega) (by omega) q))
    · exact lc_8 h6 hN (by omega) (by omega) (aq_answer G h (xs (i + 1))) (fun v2 q => lc_next (ih (i + 6) kc ks v2 (by omega) (by omega) (by omega) (by omega) q))
    · exact lc_9 h6 hN (by omega) (by omega) (aq_finish G h (xs (i + 1))) (fun v2 q => lc_next (ih (i + 6) kc ks v2 (by omega) (by omega) (by omega) (by omega) q))
    · exact lc_10 h6 hN (by omega) (by omega) (aq_accept G h (xs (i + 1))) (fun v2 q => lc_next (ih (i + 6) kc ks v2 (by omega) (by omega) (by omega) (by omega) q))
    · exact lc_11 h6 hN (by omega) (by omega) (aq_wire G hNT h (xs (i + 1)) (xs (i + 2)) (xs (i + 3))) (fun v2 q => lc_next (ih (i + 6) (kc + 1) (ks + 6) v2 (by omega) (by omega) (by omega) (by omega) q))
    · exact lc_12 h6 hN (by omega) (by omega) (aq_tamper G h (xs (i + 1)) (xs (i + 2)) (xs (i + 3)) (xs (i + 4))) (fun v2 q => lc_next (ih (i + 6) kc ks v2 (by omega) (by omega) (by omega) (by omega) q))
    · exact lc_13 h6 hN (by omega) (by omega) (aq_key G hNT h (xs (i + 1)) (xs (i + 2)) (xs (i + 3))) (fun v2 q => lc_next (ih (i + 6) (kc + 1) (ks + 6) v2 (by omega) (by omega) (by omega) (by omega) q))
theorem FR.iv {v : Nat → Int32} (h : FR v) : IV v := ⟨h.1, h.at (by decide), (h.at (j := 73) (by decide)).trans (h.at (j := 64) (by decide)).symm⟩
theorem pn_law {b N : Nat} {xs : Nat → Int32} {G : GX} {v : Nat → Int32} (hN : N ≤ 3073) (hNT : G.1.stackTraces = false) (h : FR v) : LG b N xs G 33 [(4, .int (nI 1)), (3, .ref 451), (2, .ref 373), (1, .ref 61)] [] v 391 56987 :=
  pn_loop hN hNT 512 1 391 56987 v (by omega) (by decide) (by decide) (by decide) h.iv

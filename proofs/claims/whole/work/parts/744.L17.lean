theorem RLt.mo {th : Nat} {M : List va_E} (h : RLt th M) : ∃ w, M[373]? = some (moO w) := by
  obtain ⟨sd, ch, tx, rs, rec, us, t, C, b, x, -, h, -⟩ := h
  exact h.mo
theorem RL.mo {M : List va_E} (h : RL M) : ∃ w, M[373]? = some (moO w) := by
  obtain ⟨sd, ch, tx, rs, rec, us, t, C, b, x, th, -, h, -⟩ := h
  exact h.mo
theorem RL.pg {M : List va_E} (h : RL M) : M[61]? = some pgO := by
  obtain ⟨sd, ch, tx, rs, rec, us, t, C, b, x, th, h, -⟩ := h
  exact h.1.1
theorem RL.ou {M : List va_E} (h : RL M) : ∃ f, M[451]? = some (.inl (0, 1, .inr (.inl f))) := by
  obtain ⟨sd, ch, tx, rs, rec, us, t, C, b, x, th, -, -, -, -, h⟩ := h
  exact h
theorem kp_451 {M : List va_E} {c : va_E} : Kp [451] M (M.set 451 c) := fun q hq => List.getElem?_set_ne (fun e => hq (by rw [e]; exact List.mem_singleton_self _))
theorem at_451 {M : List va_E} {c d : va_E} (h : M[451]? = some d) : (M.set 451 c)[451]? = some c := List.getElem?_set_self (List.getElem?_eq_some_iff.mp h).1
theorem lcmp_s (x : Int64) : lg_cmp x x = 0 := by unfold lg_cmp; rw [if_neg Int64.lt_irrefl, if_pos rfl]
theorem th_of (G : GX) {th : Nat} {M : List va_E} (h : RLt th M) : CT G mi_Mo_thrown [.ref 373] M (fun r M' => r = some (.int (nI th)) ∧ M' = M) := by
  obtain ⟨sd, ch, tx, rs, rec, us, t, C, b, x, -, h, -⟩ := h
  exact p_Mo_thrown h.2.1
set_option maxHeartbeats 8000000 in
theorem lx_0 {b N : Nat} {xs : Nat → Int32} {G : GX} {M : List va_E} {i kc ks : Nat} (hi : i + 6 ≤ N) (hN : N ≤ 3073) (hkc : kc + 1 ≤ 601024) (hks : ks + 6 ≤ 7293000) (h61 : M[61]? = some pgO) (h : PRm G mi_PG_feed mi_Mo_feed [.int (xs (i + 1)), .int (xs (i + 2)), .int (xs (i + 3)), .int (xs (i + 4)), .int (xs (i + 5))] M) (kk : ∀ M2, RL M2 → TG (ZL b N xs) G mi_lw 671 [(4, .int (nI i)), (3, .ref 451), (2, .ref 373), (1, .ref 61)] [] M2 kc ks (fun _ _ => True)) : TG (ZL b N xs) G mi_lw 120 [(4, .int (nI i)), (3, .ref 451), (2, .ref 373), (1, .ref 61)] [] M kc ks (fun _ _ => True) := by
  obtain ⟨r, Q1, h0, h1, h2⟩ := h
  refine G_aload_n (v := .ref 61) d_lw_120 rfl (Or.inr ⟨_, rfl⟩) ?_
  refine L_ld (i := i) (k := 1) d_lw_121 d_lw_122 d_lw_124 d_lw_125 d_lw_126 rfl rfl (by omega) (by omega) ?_
  refine L_ld (i := i) (k := 2) d_lw_127 d_lw_128 d_lw_130 d_lw_131 d_lw_132 rfl rfl (by omega) (by omega) ?_
  refine L_ld (i := i) (k := 3) d_lw_133 d_lw_134 d_lw_136 d_lw_137 d_lw_138 rfl rfl (by omega) (by omega) ?_
  refine L_ld (i := i) (k := 4) d_lw_139 d_lw_140 d_lw_142 d_lw_143 d_lw_144 rfl rfl (by omega) (by omega) ?_
  refine L_ld (i := i) (k := 5) d_lw_145 d_lw_146 d_lw_148 d_lw_149 d_lw_150 rfl rfl (by omega) (by omega) ?_
  refine G_virtual (as := [.int (xs (i + 1)), .int (xs (i + 2)), .int (xs (i + 3)), .int (xs (i + 4)), .int (xs (i + 5))]) (rest := []) (b := 61) (mj := mi_PG_feed) d_lw_151 rfl (jw_PG_feed.jo (by decide)) lm_lw_34 ji_PG_feed js_PG_feed h61 rfl rfl rfl (Nat.le_of_ble_eq_true rfl) (by show kc + 0 ≤ 601024; omega) (by show ks + 0 ≤ 7293000; omega) h1 (fun r1 M1 hq => ?_)
  obtain ⟨rfl, hq1⟩ := hq
  obtain ⟨w1, h373⟩ := h0 M1 hq1
  show TG (ZL b N xs) G mi_lw 154 [(4, .int (nI i)), (3, .ref 451), (2, .ref 373), (1, .ref 61)] [.int r] M1 kc ks (fun _ _ => True)
  refine G_aload_n (v := .ref 373) d_lw_154 rfl (Or.inr ⟨_, rfl⟩) ?_
  refine L_ld (i := i) (k := 1) d_lw_155 d_lw_156 d_lw_158 d_lw_159 d_lw_160 rfl rfl (by omega) (by omega) ?_
  refine L_ld (i := i) (k := 2) d_lw_161 d_lw_162 d_lw_164 d_lw_165 d_lw_166 rfl rfl (by omega) (by omega) ?_
  refine L_ld (i := i) (k := 3) d_lw_167 d_lw_168 d_lw_170 d_lw_171 d_lw_172 rfl rfl (by omega) (by omega) ?_
  refine L_ld (i := i) (k := 4) d_lw_173 d_lw_174 d_lw_176 d_lw_177 d_lw_178 rfl rfl (by omega) (by omega) ?_
  refine L_ld (i := i) (k := 5) d_lw_179 d_lw_180 d_lw_182 d_lw_183 d_lw_184 rfl rfl (by omega) (by omega) ?_
  refine G_virtual (as := [.int (xs (i + 1)), .int (xs (i + 2)), .int (xs (i + 3)), .int (xs (i + 4)), .int (xs (i + 5))]) (rest := [.int r]) (b := 373) (mj := mi_Mo_feed) d_lw_185 rfl (jw_Mo_feed.jo (by decide)) lm_lw_38 ji_Mo_feed js_Mo_feed h373 rfl rfl rfl (Nat.le_of_ble_eq_true rfl) (by show kc + 0 ≤ 601024; omega) (by show ks + 0 ≤ 7293000; omega) (h2 M1 hq1) (fun r1 M2 hq => ?_)
  obtain ⟨rfl, hR⟩ := hq
  show TG (ZL b N xs) G mi_lw 188 [(4, .int (nI i)), (3, .ref 451), (2, .ref 373), (1, .ref 61)] [.int r, .int r] M2 kc ks (fun _ _ => True)
  refine G_icmp_eq d_lw_188 (tgt := 671) rfl (fun _ => ?_) (fun c => absurd rfl c)
  exact kk M2 hR
set_option maxHeartbeats 8000000 in
theorem lx_1 {b N : Nat} {xs : Nat → Int32} {G : GX} {M : List va_E} {i kc ks : Nat} (hi : i + 6 ≤ N) (hN : N ≤ 3073) (hkc : kc + 1 ≤ 601024) (hks : ks + 6 ≤ 7293000) (h61 : M[61]? = some pgO) (h : PRm G mi_PG_end mi_Mo_end [.int (xs (i + 1))] M) (kk : ∀ M2, RL M2 → TG (ZL b N xs) G mi_lw 671 [(4, .int (nI i)), (3, .ref 451), (2, .ref 373), (1, .ref 61)] [] M2 kc ks (fun _ _ => True)) : TG (ZL b N xs) G mi_lw 193 [(4, .int (nI i)), (3, .ref 451), (2, .ref 373), (1, .ref 61)] [] M kc ks (fun _ _ => True) := by
  obtain ⟨r, Q1, h0, h1, h2⟩ := h
  refine G_aload_n (v := .ref 61) d_lw_193 rfl (Or.inr ⟨_, rfl⟩) ?_
  refine L_ld (i := i) (k := 1) d_lw_194 d_lw_195 d_lw_197 d_lw_198 d_lw_199 rfl rfl (by omega) (by omega) ?_
  refine G_virtual (as := [.int (xs (i + 1))]) (rest := []) (b := 61) (mj := mi_PG_end) d_lw_200 rfl (jw_PG_end.jo (by decide)) lm_lw_39 ji_PG_end js_PG_end h61 rfl rfl rfl (Nat.le_of_ble_eq_true rfl) (by show kc + 0 ≤ 601024; omega) (by show ks + 0 ≤ 7293000; omega) h1 (fun r1 M1 hq => ?_)
  obtain ⟨rfl, hq1⟩ := hq
  obtain ⟨w1, h373⟩ := h0 M1 hq1
  show TG (ZL b N xs) G mi_lw 203 [(4, .int (nI i)), (3, .ref 451), (2, .ref 373), (1, .ref 61)] [.int r] M1 kc ks (fun _ _ => True)
  refine G_aload_n (v := .ref 373) d_lw_203 rfl (Or.inr ⟨_, rfl⟩) ?_
  refine L_ld (i := i) (k := 1) d_lw_204 d_lw_205 d_lw_207 d_lw_208 d_lw_209 rfl rfl (by omega) (by omega) ?_
  refine G_virtual (as := [.int (xs (i + 1))]) (rest := [.int r]) (b := 373) (mj := mi_Mo_end) d_lw_210 rfl (jw_Mo_end.jo (by decide)) lm_lw_43 ji_Mo_end js_Mo_end h373 rfl rfl rfl (Nat.le_of_ble_eq_true rfl) (by show kc + 0 ≤ 601024; omega) (by show ks + 0 ≤ 7293000; omega) (h2 M1 hq1) (fun r1 M2 hq => ?_)
  obtain ⟨rfl, hR⟩ := hq
  show TG (ZL b N xs) G mi_lw 213 [(4, .int (nI i)), (3, .ref 451), (2, .ref 373), (1, .ref 61)] [.int r, .int r] M2 kc ks (fun _ _ => True)
  refine G_icmp_eq d_lw_213 (tgt := 671) rfl (fun _ => ?_) (fun c => absurd rfl c)
  exact kk M2 hR
set_option maxHeartbeats 8000000 in
theorem lx_2 {b N : Nat} {xs : Nat → Int32} {G : GX} {M : List va_E} {i kc ks : Nat} (hi : i + 6 ≤ N) (hN : N ≤ 3073) (hkc : kc + 1 ≤ 601024) (hks : ks + 6 ≤ 7293000) (h61 : M[61]? = some pgO) (h : PRm G mi_PG_hash mi_Mo_hash [] M) (kk : ∀ M2, RL M2 → TG (ZL b N xs) G mi_lw 671 [(4, .int (nI i)), (3, .ref 451), (2, .ref 373), (1, .ref 61)] [] M2 kc ks (fun _ _ => True)) : TG (ZL b N xs) G mi_lw 218 [(4, .int (nI i)), (3, .ref 451), (2, .ref 373), (1, .ref 61)] [] M kc ks (fun _ _ => True) := by
  obtain ⟨r, Q1, h0, h1, h2⟩ := h
  refine G_aload_n (v := .ref 61) d_lw_218 rfl (Or.inr ⟨_, rfl⟩) ?_
  refine G_virtual (as := []) (rest := []) (b := 61) (mj := mi_PG_hash) d_lw_219 rfl (jw_PG_hash.jo (by decide)) lm_lw_44 ji_PG_hash js_PG_hash h61 rfl rfl rfl (Nat.le_of_ble_eq_true rfl) (by show kc + 0 ≤ 601024; omega) (by show ks + 0 ≤ 7293000; omega) h1 (fun r1 M1 hq => ?_)
  obtain ⟨rfl, hq1⟩ := hq
  obtain ⟨w1, h373⟩ := h0 M1 hq1
  show TG (ZL b N xs) G mi_lw 222 [(4, .int (nI i)), (3, .ref 451), (2, .ref 373), (1, .ref 61)] [.int r] M1 kc ks (fun _ _ => True)
  refine G_aload_n (v := .ref 373) d_lw_222 rfl (Or.inr ⟨_, rfl⟩) ?_
  refine G_virtual (as := []) (rest := [.int r]) (b := 373) (mj := mi_Mo_hash) d_lw_223 rfl (jw_Mo_hash.jo (by decide)) lm_lw_48 ji_Mo_hash js_Mo_hash h373 rfl rfl rfl (Nat.le_of_ble_eq_true rfl) (by show kc + 0 ≤ 601024; omega) (by show ks + 0 ≤ 7293000; omega) (h2 M1 hq1) (fun r1 M2 hq => ?_)
  obtain ⟨rfl, hR⟩ := hq
  show TG (ZL b N xs) G mi_lw 226 [(4, .int (nI i)), (3, .ref 451), (2, .ref 373), (1, .ref 61)] [.int r, .int r] M2 kc ks (fun _ _ => True)
  refine G_icmp_eq d_lw_226 (tgt := 671) rfl (fun _ => ?_) (fun c => absurd rfl c)
  exact kk M2 hR
set_option maxHeartbeats 8000000 in
theorem lx_3 {b N : Nat} {xs : Nat → Int32} {G : GX} {M : List va_E} {i kc ks : Nat} (hi : i + 6 ≤ N) (hN : N ≤ 3073) (hkc : kc + 1 ≤ 601024) (hks : ks + 6 ≤ 7293000) (h61 : M[61]? = some pgO) (h : PRm G mi_PG_group mi_Mo_group [] M) (kk : ∀ M2, RL M2 → TG (ZL b N xs) G mi_lw 671 [(4, .int (nI i)), (3, .ref 451), (2, .ref 373), (1, .ref 61)] [] M2 kc ks (fun _ _ => True)) : TG (ZL b N xs) G mi_lw 231 [(4, .int (nI i)), (3, .ref 451), (2, .ref 373), (1, .ref 61)] [] M kc ks (fun _ _ => True) := by
  obtain ⟨r, Q1, h0, h1, h2⟩ := h
  refine G_aload_n (v := .ref 61) d_lw_231 rfl (Or.inr ⟨_, rfl⟩) ?_
  refine G_virtual (as := []) (rest := []) (b := 61) (mj := mi_PG_group) d_lw_232 rfl (jw_PG_group.jo (by decide)) lm_lw_49 ji_PG_group js_PG_group h61 rfl rfl rfl (Nat.le_of_ble_eq_true rfl) (by show kc + 0 ≤ 601024; omega) (by show ks + 0 ≤ 7293000; omega) h1 (fun r1 M1 hq => ?_)
  obtain ⟨rfl, hq1⟩ := hq
  obtain ⟨w1, h373⟩ := h0 M1 hq1
  show TG (ZL b N xs) G mi_lw 235 [(4, .int (nI i)), (3, .ref 451), (2, .ref 373), (1, .ref 61)] [.int r] M1 kc ks (fun _ _ => True)
  refine G_aload_n (v := .ref 373) d_lw_235 rfl (Or.inr ⟨_, rfl⟩) ?_
  refine G_virtual (as := []) (rest := [.int r]) (b := 373) (mj := mi_Mo_group) d_lw_236 rfl (jw_Mo_group.jo (by decide)) lm_lw_52 ji_Mo_group js_Mo_group h373 rfl rfl rfl (Nat.le_of_ble_eq_true rfl) (by show kc + 0 ≤ 601024; omega) (by show ks + 0 ≤ 7293000; omega) (h2 M1 hq1) (fun r1 M2 hq => ?_)
  obtain ⟨rfl, hR⟩ := hq
  show TG (ZL b N xs) G mi_lw 239 [(4, .int (nI i)), (3, .ref 451), (2, .ref 373), (1, .ref 61)] [.int r, .int r] M2 kc ks (fun _ _ => True)
  refine G_icmp_eq d_lw_239 (tgt := 671) rfl (fun _ => ?_) (fun c => absurd rfl c)
  exact kk M2 hR
set_option maxHeartbeats 8000000 in
theorem lx_4 {b N : Nat} {xs : Nat → Int32} {G : GX} {M : List va_E} {i kc ks : Nat} (hi : i + 6 ≤ N) (hN : N ≤ 3073) (hkc : kc + 1 ≤ 601024) (hks : ks + 6 ≤ 7293000) (h61 : M[61]? = some pgO) (h : PRm G mi_PG_times mi_Mo_times [] M) (kk : ∀ M2, RL M2 → TG (ZL b N xs) G mi_lw 671 [(4, .int (nI i)), (3, .ref 451), (2, .ref 373), (1, .ref 61)] [] M2 kc ks (fun _ _ => True)) : TG (ZL b N xs) G mi_lw 244 [(4, .int (nI i)), (3, .ref 451), (2, .ref 373), (1, .ref 61)] [] M kc ks (fun _ _ => True) := by
  obtain ⟨r, Q1, h0, h1, h2⟩ := h
  refine G_aload_n (v := .ref 61) d_lw_244 rfl (Or.inr ⟨_, rfl⟩) ?_
  refine G_virtual (as := []) (rest := []) (b := 61) (mj := mi_PG_times) d_lw_245 rfl (jw_PG_times.jo (by decide)) lm_lw_53 ji_PG_times js_PG_times h61 rfl rfl rfl (Nat.le_of_ble_eq_true rfl) (by show kc + 0 ≤ 601024; omega) (by show ks + 0 ≤ 7293000; omega) h1 (fun r1 M1 hq => ?_)
  obtain ⟨rfl, hq1⟩ := hq
  obtain ⟨w1, h373⟩ := h0 M1 hq1
  show TG (ZL b N xs) G mi_lw 248 [(4, .int (nI i)), (3, .ref 451), (2, .ref 373), (1, .ref 61)] [.int r] M1 kc ks (fun _ _ => True)
  refine G_aload_n (v := .ref 373) d_lw_248 rfl (Or.inr ⟨_, rfl⟩) ?_
  refine G_virtual (as := []) (rest := [.int r]) (b := 373) (mj := mi_Mo_times) d_lw_249 rfl (jw_Mo_times.jo (by decide)) lm_lw_56 ji_Mo_times js_Mo_times h373 rfl rfl rfl (Nat.le_of_ble_eq_true rfl) (by show kc + 0 ≤ 601024; omega) (by show ks + 0 ≤ 7293000; omega) (h2 M1 hq1) (fun r1 M2 hq => ?_)
  obtain ⟨rfl, hR⟩ := hq
  show TG (ZL b N xs) G mi_lw 252 [(4, .int (nI i)), (3, .ref 451), (2, .ref 373), (1, .ref 61)] [.int r, .int r] M2 kc ks (fun _ _ => True)
  refine G_icmp_eq d_lw_252 (tgt := 671) rfl (fun _ => ?_) (fun c => absurd rfl c)
  exact kk M2 hR
set_option maxHeartbeats 8000000 in
theorem lx_5t {b N : Nat} {xs : Nat → Int32} {G : GX} {M : List va_E} {i kc ks : Nat} (hi : i + 6 ≤ N) (hN : N ≤ 3073) (hkc : kc + 1 ≤ 601024) (hks : ks + 6 ≤ 7293000) (h61 : M[61]? = some pgO) (hm : ∃ w, M[373]? = some (moO w)) (h1 : CTx G mt_PG_result (.ref 61 :: [.int (xs (i + 1))]) M (fun _ M' => M' = M)) (h2 : CT G mi_Mo_result (.ref 373 :: [.int (xs (i + 1))]) M (fun r' M'' => (∃ z : Int32, r' = some (.int z)) ∧ RLt 1 M'')) (kk : ∀ M2, RL M2 → TG (ZL b N xs) G mi_lw 671 [(4, .int (nI i)), (3, .ref 451), (2, .ref 373), (1, .ref 61)] [] M2 (kc + 1) (ks + 6) (fun _ _ => True)) : TG (ZL b N xs) G mi_lw 257 [(4, .int (nI i)), (3, .ref 451), (2, .ref 373), (1, .ref 61)] [] M kc ks (fun _ _ => True) := by
  refine G_aload_n (v := .ref 61) d_lw_257 rfl (Or.inr ⟨_, rfl⟩) ?_
  refine L_ld (i := i) (k := 1) d_lw_258 d_lw_259 d_lw_261 d_lw_262 d_lw_263 rfl rfl (by omega) (by omega) ?_
  refine G_aload_n (v := .ref 451) d_lw_264 rfl (Or.inr ⟨_, rfl⟩) ?_
  refine G_staticH (as := [.ref 61, .int (xs (i + 1)), .ref 451]) (rest := []) (mj := mi_lresult) (hs := [(0, 9, 12, 13)]) (fun p e s c h => h.1) d_lw_265 rfl (jh_lresult (by decide)) lm_lw_57 jt_lresult rfl (by decide) (by show kc + 1 ≤ 601024; omega) (by show ks + 6 ≤ 7293000; omega) (hx_result_thr h61 h1) (fun r1 M1 hq => ?_)
  obtain ⟨rfl, rfl⟩ := hq
  obtain ⟨w1, h373⟩ := hm
  show TG (ZL b N xs) G mi_lw 268 [(4, .int (nI i)), (3, .ref 451), (2, .ref 373), (1, .ref 61)] [.int (nI 1)] M1 (kc + 1) (ks + 6) (fun _ _ => True)
  refine G_istore (L' := [(5, .int (nI 1)), (4, .int (nI i)), (3, .ref 451), (2, .ref 373), (1, .ref 61)]) d_lw_268 (by decide) rfl rfl ?_
  refine G_aload_n (v := .ref 373) d_lw_270 rfl (Or.inr ⟨_, rfl⟩) ?_
  refine L_ld (i := i) (k := 1) d_lw_271 d_lw_272 d_lw_274 d_lw_275 d_lw_276 rfl rfl (by omega) (by omega) ?_
  refine G_virtual (as := [.int (xs (i + 1))]) (rest := []) (b := 373) (mj := mi_Mo_result) d_lw_277 rfl (jw_Mo_result.jo (by decide)) lm_lw_60 ji_Mo_result js_Mo_result h373 rfl rfl rfl (Nat.le_of_ble_eq_true rfl) (by show kc + 1 + 0 ≤ 601024; omega) (by show ks + 6 + 0 ≤ 7293000; omega) h2 (fun r1 M2 hq => ?_)
  obtain ⟨⟨z, rfl⟩, hR⟩ := hq
  show TG (ZL b N xs) G mi_lw 280 [(5, .int (nI 1)), (4, .int (nI i)), (3, .ref 451), (2, .ref 373), (1, .ref 61)] [.int z] M2 (kc + 1) (ks + 6) (fun _ _ => True)
  refine G_istore (L' := [(6, .int z), (5, .int (nI 1)), (4, .int (nI i)), (3, .ref 451), (2, .ref 373), (1, .ref 61)]) d_lw_280 (by decide) rfl rfl ?_
  obtain ⟨w2, h3⟩ := hR.mo
  refine G_aload_n (v := .ref 373) d_lw_282 rfl (Or.inr ⟨_, rfl⟩) ?_
  refine G_virtual (as := []) (rest := []) (b := 373) (mj := mi_Mo_thrown) d_lw_283 rfl (jw_Mo_thrown.jo (by decide)) lm_lw_61 ji_Mo_thrown js_Mo_thrown h3 rfl rfl rfl (Nat.le_of_ble_eq_true rfl) (by show kc + 1 + 0 ≤ 601024; omega) (by show ks + 6 + 0 ≤ 7293000; omega) (th_of G hR) (fun r1 M3 hq => ?_)
  obtain ⟨rfl, rfl⟩ := hq
  show TG (ZL b N xs) G mi_lw 286 [(6, .int z), (5, .int (nI 1)), (4, .int (nI i)), (3, .ref 451), (2, .ref 373), (1, .ref 61)] [.int (nI 1)] M3 (kc + 1) (ks + 6) (fun _ _ => True)
  refine G_iload d_lw_286 rfl ?_
  refine G_icmp_eq d_lw_288 (tgt := 293) rfl (fun _ => ?_) (fun c => absurd rfl c)
  refine G_iload d_lw_293 rfl ?_
  refine G_if_ne d_lw_295 (tgt := 310) rfl (fun _ => ?_) (fun c => absurd c (by decide))
  refine G_goto (tgt := 671) d_lw_310 rfl ?_
  refine G_sub (L' := [(4, .int (nI i)), (3, .ref 451), (2, .ref 373), (1, .ref 61)]) (fun q hq => List.mem_cons_of_mem _ (List.mem_cons_of_mem _ hq)) ?_
  exact kk _ hR.rl
set_option maxHeartbeats 8000000 in
theorem lx_5r {b N : Nat} {xs : Nat → Int32} {G : GX} {M : List va_E} {i kc ks : Nat} (hi : i + 6 ≤ N) (hN : N ≤ 3073) (hkc : kc + 1 ≤ 601024) (hks : ks + 6 ≤ 7293000) (h61 : M[61]? = some pgO) (hm : ∃ w, M[373]? = some (moO w)) {f : Nat → Int64} {r : Int32} (hf : M[451]? = some (.inl (0, 1, .inr (.inl f)))) (h1 : CT G mi_PG_result (.ref 61 :: [.int (xs (i + 1))]) M (fun r' M' => r' = some (.int r) ∧ M' = M)) (h2 : ∀ M' f, Kp [451] M M' → M'[451]? = some (.inl (0, 1, .inr (.inl f))) → CT G mi_Mo_result (.ref 373 :: [.int (xs (i + 1))]) M' (fun r' M'' => r' = some (.int r) ∧ M''[451]? = some (.inl (0, 1, .inr (.inl f))) ∧ RLt 0 M'')) (kk : ∀ M2, RL M2 → TG (ZL b N xs) G mi_lw 671 [(4, .int (nI i)), (3, .ref 451), (2, .ref 373), (1, .ref 61)] [] M2 (kc + 1) (ks + 6) (fun _ _ => True)) : TG (ZL b N xs) G mi_lw 257 [(4, .int (nI i)), (3, .ref 451), (2, .ref 373), (1, .ref 61)] [] M kc ks (fun _ _ => True) := by
  refine G_aload_n (v := .ref 61) d_lw_257 rfl (Or.inr ⟨_, rfl⟩) ?_
  refine L_ld (i := i) (k := 1) d_lw_258 d_lw_259 d_lw_261 d_lw_262 d_lw_263 rfl rfl (by omega) (by omega) ?_
  refine G_aload_n (v := .ref 451) d_lw_264 rfl (Or.inr ⟨_, rfl⟩) ?_
  refine G_staticH (as := [.ref 61, .int (xs (i + 1)), .ref 451]) (rest := []) (mj := mi_lresult) (hs := [(0, 9, 12, 13)]) (fun p e s c h => h.1) d_lw_265 rfl (jh_lresult (by decide)) lm_lw_57 jt_lresult rfl (by decide) (by show kc + 1 ≤ 601024; omega) (by show ks + 6 ≤ 7293000; omega) (hx_result_ret h61 hf h1) (fun r1 M1 hq => ?_)
  obtain ⟨rfl, g, g0, rfl⟩ := hq
  obtain ⟨w1, h373⟩ := hm
  have h373 := (kp_451 (c := oq g) 373 (by decide)).trans h373
  show TG (ZL b N xs) G mi_lw 268 [(4, .int (nI i)), (3, .ref 451), (2, .ref 373), (1, .ref 61)] [.int (nI 0)] (M.set 451 (oq g)) (kc + 1) (ks + 6) (fun _ _ => True)
  refine G_istore (L' := [(5, .int (nI 0)), (4, .int (nI i)), (3, .ref 451), (2, .ref 373), (1, .ref 61)]) d_lw_268 (by decide) rfl rfl ?_
  refine G_aload_n (v := .ref 373) d_lw_270 rfl (Or.inr ⟨_, rfl⟩) ?_
  refine L_ld (i := i) (k := 1) d_lw_271 d_lw_272 d_lw_274 d_lw_275 d_lw_276 rfl rfl (by omega) (by omega) ?_
  refine G_virtual (as := [.int (xs (i + 1))]) (rest := []) (b := 373) (mj := mi_Mo_result) d_lw_277 rfl (jw_Mo_result.jo (by decide)) lm_lw_60 ji_Mo_result js_Mo_result h373 rfl rfl rfl (Nat.le_of_ble_eq_true rfl) (by show kc + 1 + 0 ≤ 601024; omega) (by show ks + 6 + 0 ≤ 7293000; omega) (h2 _ g kp_451 (at_451 hf)) (fun r1 M2 hq => ?_)
  obtain ⟨rfl, hg, hR⟩ := hq
  show TG (ZL b N xs) G mi_lw 280 [(5, .int (nI 0)), (4, .int (nI i)), (3, .ref 451), (2, .ref 373), (1, .ref 61)] [.int r] M2 (kc + 1) (ks + 6) (fun _ _ => True)
  refine G_istore (L' := [(6, .int r), (5, .int (nI 0)), (4, .int (nI i)), (3, .ref 451), (2, .ref 373), (1, .ref 61)]) d_lw_280 (by decide) rfl rfl ?_
  obtain ⟨w2, h3⟩ := hR.mo
  refine G_aload_n (v := .ref 373) d_lw_282 rfl (Or.inr ⟨_, rfl⟩) ?_
  refine G_virtual (as := []) (rest := []) (b := 373) (mj := mi_Mo_thrown) d_lw_283 rfl (jw_Mo_thrown.jo (by decide)) lm_lw_61 ji_Mo_thrown js_Mo_thrown h3 rfl rfl rfl (Nat.le_of_ble_eq_true rfl) (by show kc + 1 + 0 ≤ 601024; omega) (by show ks + 6 + 0 ≤ 7293000; omega) (th_of G hR) (fun r1 M3 hq => ?_)
  obtain ⟨rfl, rfl⟩ := hq
  show TG (ZL b N xs) G mi_lw 286 [(6, .int r), (5, .int (nI 0)), (4, .int (nI i)), (3, .ref 451), (2, .ref 373), (1, .ref 61)] [.int (nI 0)] M3 (kc + 1) (ks + 6) (fun _ _ => True)
  refine G_iload d_lw_286 rfl ?_
  refine G_icmp_eq d_lw_288 (tgt := 293) rfl (fun _ => ?_) (fun c => absurd rfl c)
  refine G_iload d_lw_293 rfl ?_
  refine G_if_ne d_lw_295 (tgt := 310) rfl (fun c => absurd (show nI 0 = 0 by decide) c) (fun _ => ?_)
  refine G_aload_n (v := .ref 451) d_lw_298 rfl (Or.inr ⟨_, rfl⟩) ?_
  refine G_iconst (v := nI 0) d_lw_299 (by decide) ?_
  refine G_laload (n := 1) d_lw_300 hg (vp_in_nI (by decide) (by decide)) ?_
  refine G_eq (st' := [.long r.toInt64]) rfl rfl (by rw [nI_clamp (by decide), g0]) rfl ?_
  refine G_iload d_lw_301 rfl ?_
  refine G_i2l d_lw_303 ?_
  refine G_lcmp d_lw_304 ?_
  refine G_if_eq d_lw_305 (tgt := 310) rfl (fun _ => ?_) (fun c => absurd (lcmp_s _) c)
  refine G_goto (tgt := 671) d_lw_310 rfl ?_
  refine G_sub (L' := [(4, .int (nI i)), (3, .ref 451), (2, .ref 373), (1, .ref 61)]) (fun q hq => List.mem_cons_of_mem _ (List.mem_cons_of_mem _ hq)) ?_
  exact kk _ hR.rl
theorem lx_5 {b N : Nat} {xs : Nat → Int32} {G : GX} {M : List va_E} {i kc ks : Nat} (hi : i + 6 ≤ N) (hN : N ≤ 3073) (hkc : kc + 1 ≤ 601024) (hks : ks + 6 ≤ 7293000) (h61 : M[61]? = some pgO) (hM : RL M) (h : PXm G mt_PG_result mi_PG_result mi_Mo_result [.int (xs (i + 1))] M) (kk : ∀ M2, RL M2 → TG (ZL b N xs) G mi_lw 671 [(4, .int (nI i)), (3, .ref 451), (2, .ref 373), (1, .ref 61)] [] M2 (kc + 1) (ks + 6) (fun _ _ => True)) : TG (ZL b N xs) G mi_lw 257 [(4, .int (nI i)), (3, .ref 451), (2, .ref 373), (1, .ref 61)] [] M kc ks (fun _ _ => True) := by
  rcases h with ⟨h1, h2⟩ | ⟨r, h1, h2⟩
  · exact lx_5t hi hN hkc hks h61 hM.mo h1 h2 kk
  · obtain ⟨f, hf⟩ := hM.ou; exact lx_5r hi hN hkc hks h61 hM.mo hf h1 h2 kk
set_option maxHeartbeats 8000000 in
theorem lx_6 {b N : Nat} {xs : Nat → Int32} {G : GX} {M : List va_E} {i kc ks : Nat} (hi : i + 6 ≤ N) (hN : N ≤ 3073) (hkc : kc + 1 ≤ 601024) (hks : ks + 6 ≤ 7293000) (h61 : M[61]? = some pgO) (h : PRm G mi_PG_enroll mi_Mo_enroll [.int (xs (i + 1))] M) (kk : ∀ M2, RL M2 → TG (ZL b N xs) G mi_lw 671 [(4, .int (nI i)), (3, .ref 451), (2, .ref 373), (1, .ref 61)] [] M2 kc ks (fun _ _ => True)) : TG (ZL b N xs) G mi_lw 313 [(4, .int (nI i)), (3, .ref 451), (2, .ref 373), (1, .ref 61)] [] M kc ks (fun _ _ => True) := by
  obtain ⟨r, Q1, h0, h1, h2⟩ := h
  refine G_aload_n (v := .ref 61) d_lw_313 rfl (Or.inr ⟨_, rfl⟩) ?_
  refine L_ld (i := i) (k := 1) d_lw_314 d_lw_315 d_lw_317 d_lw_318 d_lw_319 rfl rfl (by omega) (by omega) ?_
  refine G_virtual (as := [.int (xs (i + 1))]) (rest := []) (b := 61) (mj := mi_PG_enroll) d_lw_320 rfl (jw_PG_enroll.jo (by decide)) lm_lw_64 ji_PG_enroll js_PG_enroll h61 rfl rfl rfl (Nat.le_of_ble_eq_true rfl) (by show kc + 0 ≤ 601024; omega) (by show ks + 0 ≤ 7293000; omega) h1 (fun r1 M1 hq => ?_)
  obtain ⟨rfl, hq1⟩ := hq
  obtain ⟨w1, h373⟩ := h0 M1 hq1
  show TG (ZL b N xs) G mi_lw 323 [(4, .int (nI i)), (3, .ref 451), (2, .ref 373), (1, .ref 61)] [.int r] M1 kc ks (fun _ _ => True)
  refine G_aload_n (v := .ref 373) d_lw_323 rfl (Or.inr ⟨_, rfl⟩) ?_
  refine L_ld (i := i) (k := 1) d_lw_324 d_lw_325 d_lw_327 d_lw_328 d_lw_329 rfl rfl (by omega) (by omega) ?_
  refine G_virtual (as := [.int (xs (i + 1))]) (rest := [.int r]) (b := 373) (mj := mi_Mo_enroll) d_lw_330 rfl (jw_Mo_enroll.jo (by decide)) lm_lw_67 ji_Mo_enroll js_Mo_enroll h373 rfl rfl rfl (Nat.le_of_ble_eq_true rfl) (by show kc + 0 ≤ 601024; omega) (by show ks + 0 ≤ 7293000; omega) (h2 M1 hq1) (fun r1 M2 hq => ?_)
  obtain ⟨rfl, hR⟩ := hq
  show TG (ZL b N xs) G mi_lw 333 [(4, .int (nI i)), (3, .ref 451), (2, .ref 373), (1, .ref 61)] [.int r, .int r] M2 kc ks (fun _ _ => True)
  refine G_icmp_eq d_lw_333 (tgt := 671) rfl (fun _ => ?_) (fun c => absurd rfl c)
  exact kk M2 hR
set_option maxHeartbeats 8000000 in
theorem lx_7 {b N : Nat} {xs : Nat → Int32} {G : GX} {M : List va_E} {i kc ks : Nat} (hi : i + 6 ≤ N) (hN : N ≤ 3073) (hkc : kc + 1 ≤ 601024) (hks : ks + 6 ≤ 7293000) (h61 : M[61]? = some pgO) (h : PRm G mi_PG_begin mi_Mo_begin [.int (xs (i + 1)), .int (xs (i + 2))] M) (kk : ∀ M2, RL M2 → TG (ZL b N xs) G mi_lw 671 [(4, .int (nI i)), (3, .ref 451), (2, .ref 373), (1, .ref 61)] [] M2 kc ks (fun _ _ => True)) : TG (ZL b N xs) G mi_lw 338 [(4, .int (nI i)), (3, .ref 451), (2, .ref 373), (1, .ref 61)] [] M kc ks (fun _ _ => True) := by
  obtain ⟨r, Q1, h0, h1, h2⟩ := h
  refine G_aload_n (v := .ref 61) d_lw_338 rfl (Or.inr ⟨_, rfl⟩) ?_
  refine L_ld (i := i) (k := 1) d_lw_339 d_lw_340 d_lw_342 d_lw_343 d_lw_344 rfl rfl (by omega) (by omega) ?_
  refine L_ld (i := i) (k := 2) d_lw_345 d_lw_346 d_lw_348 d_lw_349 d_lw_350 rfl rfl (by omega) (by omega) ?_
  refine G_virtual (as := [.int (xs (i + 1)), .int (xs (i + 2))]) (rest := []) (b := 61) (mj := mi_PG_begin) d_lw_351 rfl (jw_PG_begin.jo (by decide)) lm_lw_68 ji_PG_begin js_PG_begin h61 rfl rfl rfl (Nat.le_of_ble_eq_true rfl) (by show kc + 0 ≤ 601024; omega) (by show ks + 0 ≤ 7293000; omega) h1 (fun r1 M1 hq => ?_)
  obtain ⟨rfl, hq1⟩ := hq
  obtain ⟨w1, h373⟩ := h0 M1 hq1
  show TG (ZL b N xs) G mi_lw 354 [(4, .int (nI i)), (3, .ref 451), (2, .ref 373), (1, .ref 61)] [.int r] M1 kc ks (fun _ _ => True)
  refine G_aload_n (v := .ref 373) d_lw_354 rfl (Or.inr ⟨_, rfl⟩) ?_
  refine L_ld (i := i) (k := 1) d_lw_355 d_lw_356 d_lw_358 d_lw_359 d_lw_360 rfl rfl (by omega) (by omega) ?_
  refine L_ld (i := i) (k := 2) d_lw_361 d_lw_362 d_lw_364 d_lw_365 d_lw_366 rfl rfl (by omega) (by omega) ?_
  refine G_virtual (as := [.int (xs (i + 1)), .int (xs (i + 2))]) (rest := [.int r]) (b := 373) (mj := mi_Mo_begin) d_lw_367 rfl (jw_Mo_begin.jo (by decide)) lm_lw_72 ji_Mo_begin js_Mo_begin h373 rfl rfl rfl (Nat.le_of_ble_eq_true rfl) (by show kc + 0 ≤ 601024; omega) (by show ks + 0 ≤ 7293000; omega) (h2 M1 hq1) (fun r1 M2 hq => ?_)
  obtain ⟨rfl, hR⟩ := hq
  show TG (ZL b N xs) G mi_lw 370 [(4, .int (nI i)), (3, .ref 451), (2, .ref 373), (1, .ref 61)] [.int r, .int r] M2 kc ks (fun _ _ => True)
  refine G_icmp_eq d_lw_370 (tgt := 671) rfl (fun _ => ?_) (fun c => absurd rfl c)
  exact kk M2 hR
set_option maxHeartbeats 8000000 in
theorem lx_8 {b N : Nat} {xs : Nat → Int32} {G : GX} {M : List va_E} {i kc ks : Nat} (hi : i + 6 ≤ N) (hN : N ≤ 3073) (hkc : kc + 1 ≤ 601024) (hks : ks + 6 ≤ 7293000) (h61 : M[61]? = some pgO) (h : PRm G mi_PG_answer mi_Mo_answer [.int (xs (i + 1))] M) (kk : ∀ M2, RL M2 → TG (ZL b N xs) G mi_lw 671 [(4, .int (nI i)), (3, .ref 451), (2, .ref 373), (1, .ref 61)] [] M2 kc ks (fun _ _ => True)) : TG (ZL b N xs) G mi_lw 375 [(4, .int (nI i)), (3, .ref 451), (2, .ref 373), (1, .ref 61)] [] M kc ks (fun _ _ => True) := by
  obtain ⟨r, Q1, h0, h1, h2⟩ := h
  refine G_aload_n (v := .ref 61) d_lw_375 rfl (Or.inr ⟨_, rfl⟩) ?_
  refine L_ld (i := i) (k := 1) d_lw_376 d_lw_377 d_lw_379 d_lw_380 d_lw_381 rfl rfl (by omega) (by omega) ?_
  refine G_virtual (as := [.int (xs (i + 1))]) (rest := []) (b := 61) (mj := mi_PG_answer) d_lw_382 rfl (jw_PG_answer.jo (by decide)) lm_lw_73 ji_PG_answer js_PG_answer h61 rfl rfl rfl (Nat.le_of_ble_eq_true rfl) (by show kc + 0 ≤ 601024; omega) (by show ks + 0 ≤ 7293000; omega) h1 (fun r1 M1 hq => ?_)
  obtain ⟨rfl, hq1⟩ := hq
  obtain ⟨w1, h373⟩ := h0 M1 hq1
  show TG (ZL b N xs) G mi_lw 385 [(4, .int (nI i)), (3, .ref 451), (2, .ref 373), (1, .ref 61)] [.int r] M1 kc ks (fun _ _ => True)
  refine G_aload_n (v := .ref 373) d_lw_385 rfl (Or.inr ⟨_, rfl⟩) ?_
  refine L_ld (i := i) (k := 1) d_lw_386 d_lw_387 d_lw_389 d_lw_390 d_lw_391 rfl rfl (by omega) (by omega) ?_
  refine G_virtual (as := [.int (xs (i + 1))]) (rest := [.int r]) (b := 373) (mj := mi_Mo_answer) d_lw_392 rfl (jw_Mo_answer.jo (by decide)) lm_lw_76 ji_Mo_answer js_Mo_answer h373 rfl rfl rfl (Nat.le_of_ble_eq_true rfl) (by show kc + 0 ≤ 601024; omega) (by show ks + 0 ≤ 7293000; omega) (h2 M1 hq1) (fun r1 M2 hq => ?_)
  obtain ⟨rfl, hR⟩ := hq
  show TG (ZL b N xs) G mi_lw 395 [(4, .int (nI i)), (3, .ref 451), (2, .ref 373), (1, .ref 61)] [.int r, .int r] M2 kc ks (fun _ _ => True)
  refine G_icmp_eq d_lw_395 (tgt := 671) rfl (fun _ => ?_) (fun c => absurd rfl c)
  exact kk M2 hR
set_option maxHeartbeats 8000000 in
theorem lx_9 {b N : Nat} {xs : Nat → Int32} {G : GX} {M : List va_E} {i kc ks : Nat} (hi : i + 6 ≤ N) (hN : N ≤ 3073) (hkc : kc + 1 ≤ 601024) (hks : ks + 6 ≤ 7293000) (h61 : M[61]? = some pgO) (h : PRm G mi_PG_finish mi_Mo_finish [.int (xs (i + 1))] M) (kk : ∀ M2, RL M2 → TG (ZL b N xs) G mi_lw 671 [(4, .int (nI i)), (3, .ref 451), (2, .ref 373), (1, .ref 61)] [] M2 kc ks (fun _ _ => True)) : TG (ZL b N xs) G mi_lw 400 [(4, .int (nI i)), (3, .ref 451), (2, .ref 373), (1, .ref 61)] [] M kc ks (fun _ _ => True) := by
  obtain ⟨r, Q1, h0, h1, h2⟩ := h
  refine G_aload_n (v := .ref 61) d_lw_400 rfl (Or.inr ⟨_, rfl⟩) ?_
  refine L_ld (i := i) (k := 1) d_lw_401 d_lw_402 d_lw_404 d_lw_405 d_lw_406 rfl rfl (by omega) (by omega) ?_
  refine G_virtual (as := [.int (xs (i + 1))]) (rest := []) (b := 61) (mj := mi_PG_finish) d_lw_407 rfl (jw_PG_finish.jo (by decide)) lm_lw_77 ji_PG_finish js_PG_finish h61 rfl rfl rfl (Nat.le_of_ble_eq_true rfl) (by show kc + 0 ≤ 601024; omega) (by show ks + 0 ≤ 7293000; omega) h1 (fun r1 M1 hq => ?_)
  obtain ⟨rfl, hq1⟩ := hq
  obtain ⟨w1, h373⟩ := h0 M1 hq1
  show TG (ZL b N xs) G mi_lw 410 [(4, .int (nI i)), (3, .ref 451), (2, .ref 373), (1, .ref 61)] [.int r] M1 kc ks (fun _ _ => True)
  refine G_aload_n (v := .ref 373) d_lw_410 rfl (Or.inr ⟨_, rfl⟩) ?_
  refine L_ld (i := i) (k := 1) d_lw_411 d_lw_412 d_lw_414 d_lw_415 d_lw_416 rfl rfl (by omega) (by omega) ?_
  refine G_virtual (as := [.int (xs (i + 1))]) (rest := [.int r]) (b := 373) (mj := mi_Mo_finish) d_lw_417 rfl (jw_Mo_finish.jo (by decide)) lm_lw_80 ji_Mo_finish js_Mo_finish h373 rfl rfl rfl (Nat.le_of_ble_eq_true rfl) (by show kc + 0 ≤ 601024; omega) (by show ks + 0 ≤ 7293000; omega) (h2 M1 hq1) (fun r1 M2 hq => ?_)
  obtain ⟨rfl, hR⟩ := hq
  show TG (ZL b N xs) G mi_lw 420 [(4, .int (nI i)), (3, .ref 451), (2, .ref 373), (1, .ref 61)] [.int r, .int r] M2 kc ks (fun _ _ => True)
  refine G_icmp_eq d_lw_420 (tgt := 671) rfl (fun _ => ?_) (fun c => absurd rfl c)
  exact kk M2 hR
set_option maxHeartbeats 8000000 in
theorem lx_10 {b N : Nat} {xs : Nat → Int32} {G : GX} {M : List va_E} {i kc ks : Nat} (hi : i + 6 ≤ N) (hN : N ≤ 3073) (hkc : kc + 1 ≤ 601024) (hks : ks + 6 ≤ 7293000) (h61 : M[61]? = some pgO) (h : PRm G mi_PG_accept mi_Mo_accept [.int (xs (i + 1))] M) (kk : ∀ M2, RL M2 → TG (ZL b N xs) G mi_lw 671 [(4, .int (nI i)), (3, .ref 451), (2, .ref 373), (1, .ref 61)] [] M2 kc ks (fun _ _ => True)) : TG (ZL b N xs) G mi_lw 425 [(4, .int (nI i)), (3, .ref 451), (2, .ref 373), (1, .ref 61)] [] M kc ks (fun _ _ => True) := by
  obtain ⟨r, Q1, h0, h1, h2⟩ := h
  refine G_aload_n (v := .ref 61) d_lw_425 rfl (Or.inr ⟨_, rfl⟩) ?_
  refine L_ld (i := i) (k := 1) d_lw_426 d_lw_427 d_lw_429 d_lw_430 d_lw_431 rfl rfl (by omega) (by omega) ?_
  refine G_virtual (as := [.int (xs (i + 1))]) (rest := []) (b := 61) (mj := mi_PG_accept) d_lw_432 rfl (jw_PG_accept.jo (by decide)) lm_lw_81 ji_PG_accept js_PG_accept h61 rfl rfl rfl (Nat.le_of_ble_eq_true rfl) (by show kc + 0 ≤ 601024; omega) (by show ks + 0 ≤ 7293000; omega) h1 (fun r1 M1 hq => ?_)
  obtain ⟨rfl, hq1⟩ := hq
  obtain ⟨w1, h373⟩ := h0 M1 hq1
  show TG (ZL b N xs) G mi_lw 435 [(4, .int (nI i)), (3, .ref 451), (2, .ref 373), (1, .ref 61)] [.int r] M1 kc ks (fun _ _ => True)
  refine G_aload_n (v := .ref 373) d_lw_435 rfl (Or.inr ⟨_, rfl⟩) ?_
  refine L_ld (i := i) (k := 1) d_lw_436 d_lw_437 d_lw_439 d_lw_440 d_lw_441 rfl rfl (by omega) (by omega) ?_
  refine G_virtual (as := [.int (xs (i + 1))]) (rest := [.int r]) (b := 373) (mj := mi_Mo_accept) d_lw_442 rfl (jw_Mo_accept.jo (by decide)) lm_lw_84 ji_Mo_accept js_Mo_accept h373 rfl rfl rfl (Nat.le_of_ble_eq_true rfl) (by show kc + 0 ≤ 601024; omega) (by show ks + 0 ≤ 7293000; omega) (h2 M1 hq1) (fun r1 M2 hq => ?_)
  obtain ⟨rfl, hR⟩ := hq
  show TG (ZL b N xs) G mi_lw 445 [(4, .int (nI i)), (3, .ref 451), (2, .ref 373), (1, .ref 61)] [.int r, .int r] M2 kc ks (fun _ _ => True)
  refine G_icmp_eq d_lw_445 (tgt := 671) rfl (fun _ => ?_) (fun c => absurd rfl c)
  exact kk M2 hR
set_option maxHeartbeats 8000000 in
theorem lx_11t {b N : Nat} {xs : Nat → Int32} {G : GX} {M : List va_E} {i kc ks : Nat} (hi : i + 6 ≤ N) (hN : N ≤ 3073) (hkc : kc + 1 ≤ 601024) (hks : ks + 6 ≤ 7293000) (h61 : M[61]? = some pgO) (hm : ∃ w, M[373]? = some (moO w)) (h1 : CTx G mt_PG_wire (.ref 61 :: [.int (xs (i + 1)), .int (xs (i + 2)), .int (xs (i + 3))]) M (fun _ M' => M' = M)) (h2 : CT G mi_Mo_wire (.ref 373 :: [.int (xs (i + 1)), .int (xs (i + 2)), .int (xs (i + 3))]) M (fun r' M'' => (∃ z : Int32, r' = some (.int z)) ∧ RLt 1 M'')) (kk : ∀ M2, RL M2 → TG (ZL b N xs) G mi_lw 671 [(4, .int (nI i)), (3, .ref 451), (2, .ref 373), (1, .ref 61)] [] M2 (kc + 1) (ks + 6) (fun _ _ => True)) : TG (ZL b N xs) G mi_lw 450 [(4, .int (nI i)), (3, .ref 451), (2, .ref 373), (1, .ref 61)] [] M kc ks (fun _ _ => True) := by
  refine G_aload_n (v := .ref 61) d_lw_450 rfl (Or.inr ⟨_, rfl⟩) ?_
  refine L_ld (i := i) (k := 1) d_lw_451 d_lw_452 d_lw_454 d_lw_455 d_lw_456 rfl rfl (by omega) (by omega) ?_
  refine L_ld (i := i) (k := 2) d_lw_457 d_lw_458 d_lw_460 d_lw_461 d_lw_462 rfl rfl (by omega) (by omega) ?_
  refine L_ld (i := i) (k := 3) d_lw_463 d_lw_464 d_lw_466 d_lw_467 d_lw_468 rfl rfl (by omega) (by omega) ?_
  refine G_aload_n (v := .ref 451) d_lw_469 rfl (Or.inr ⟨_, rfl⟩) ?_
  refine G_staticH (as := [.ref 61, .int (xs (i + 1)), .int (xs (i + 2)), .int (xs (i + 3)), .ref 451]) (rest := []) (mj := mi_lwire) (hs := [(0, 12, 15, 13)]) (fun p e s c h => h.1) d_lw_470 rfl (jh_lwire (by decide)) lm_lw_85 jt_lwire rfl (by decide) (by show kc + 1 ≤ 601024; omega) (by show ks + 6 ≤ 7293000; omega) (hx_wire_thr h61 h1) (fun r1 M1 hq => ?_)
  obtain ⟨rfl, rfl⟩ := hq
  obtain ⟨w1, h373⟩ := hm
  show TG (ZL b N xs) G mi_lw 473 [(4, .int (nI i)), (3, .ref 451), (2, .ref 373), (1, .ref 61)] [.int (nI 1)] M1 (kc + 1) (ks + 6) (fun _ _ => True)
  refine G_istore (L' := [(5, .int (nI 1)), (4, .int (nI i)), (3, .ref 451), (2, .ref 373), (1, .ref 61)]) d_lw_473 (by decide) rfl rfl ?_
  refine G_aload_n (v := .ref 373) d_lw_475 rfl (Or.inr ⟨_, rfl⟩) ?_
  refine L_ld (i := i) (k := 1) d_lw_476 d_lw_477 d_lw_479 d_lw_480 d_lw_481 rfl rfl (by omega) (by omega) ?_
  refine L_ld (i := i) (k := 2) d_lw_482 d_lw_483 d_lw_485 d_lw_486 d_lw_487 rfl rfl (by omega) (by omega) ?_
  refine L_ld (i := i) (k := 3) d_lw_488 d_lw_489 d_lw_491 d_lw_492 d_lw_493 rfl rfl (by omega) (by omega) ?_
  refine G_virtual (as := [.int (xs (i + 1)), .int (xs (i + 2)), .int (xs (i + 3))]) (rest := []) (b := 373) (mj := mi_Mo_wire) d_lw_494 rfl (jw_Mo_wire.jo (by decide)) lm_lw_88 ji_Mo_wire js_Mo_wire h373 rfl rfl rfl (Nat.le_of_ble_eq_true rfl) (by show kc + 1 + 0 ≤ 601024; omega) (by show ks + 6 + 0 ≤ 7293000; omega) h2 (fun r1 M2 hq => ?_)
  obtain ⟨⟨z, rfl⟩, hR⟩ := hq
  show TG (ZL b N xs) G mi_lw 497 [(5, .int (nI 1)), (4, .int (nI i)), (3, .ref 451), (2, .ref 373), (1, .ref 61)] [.int z] M2 (kc + 1) (ks + 6) (fun _ _ => True)
  refine G_istore (L' := [(6, .int z), (5, .int (nI 1)), (4, .int (nI i)), (3, .ref 451), (2, .ref 373), (1, .ref 61)]) d_lw_497 (by decide) rfl rfl ?_
  obtain ⟨w2, h3⟩ := hR.mo
  refine G_aload_n (v := .ref 373) d_lw_499 rfl (Or.inr ⟨_, rfl⟩) ?_
  refine G_virtual (as := []) (rest := []) (b := 373) (mj := mi_Mo_thrown) d_lw_500 rfl (jw_Mo_thrown.jo (by decide)) lm_lw_61 ji_Mo_thrown js_Mo_thrown h3 rfl rfl rfl (Nat.le_of_ble_eq_true rfl) (by show kc + 1 + 0 ≤ 601024; omega) (by show ks + 6 + 0 ≤ 7293000; omega) (th_of G hR) (fun r1 M3 hq => ?_)
  obtain ⟨rfl, rfl⟩ := hq
  show TG (ZL b N xs) G mi_lw 503 [(6, .int z), (5, .int (nI 1)), (4, .int (nI i)), (3, .ref 451), (2, .ref 373), (1, .ref 61)] [.int (nI 1)] M3 (kc + 1) (ks + 6) (fun _ _ => True)
  refine G_iload d_lw_503 rfl ?_
  refine G_icmp_eq d_lw_505 (tgt := 510) rfl (fun _ => ?_) (fun c => absurd rfl c)
  refine G_iload d_lw_510 rfl ?_
  refine G_if_ne d_lw_512 (tgt := 527) rfl (fun _ => ?_) (fun c => absurd c (by decide))
  refine G_goto (tgt := 671) d_lw_527 rfl ?_
  refine G_sub (L' := [(4, .int (nI i)), (3, .ref 451), (2, .ref 373), (1, .ref 61)]) (fun q hq => List.mem_cons_of_mem _ (List.mem_cons_of_mem _ hq)) ?_
  exact kk _ hR.rl
set_option maxHeartbeats 8000000 in
theorem lx_11r {b N : Nat} {xs : Nat → Int32} {G : GX} {M : List va_E} {i kc ks : Nat} (hi : i + 6 ≤ N) (hN : N ≤ 3073) (hkc : kc + 1 ≤ 601024) (hks : ks + 6 ≤ 7293000) (h61 : M[61]? = some pgO) (hm : ∃ w, M[373]? = some (moO w)) {f : Nat → Int64} {r : Int32} (hf : M[451]? = some (.inl (0, 1, .inr (.inl f)))) (h1 : CT G mi_PG_wire (.ref 61 :: [.int (xs (i + 1)), .int (xs (i + 2)), .int (xs (i + 3))]) M (fun r' M' => r' = some (.int r) ∧ M' = M)) (h2 : ∀ M' f, Kp [451] M M' → M'[451]? = some (.inl (0, 1, .inr (.inl f))) → CT G mi_Mo_wire (.ref 373 :: [.int (xs (i + 1)), .int (xs (i + 2)), .int (xs (i + 3))]) M' (fun r' M'' => r' = some (.int r) ∧ M''[451]? = some (.inl (0, 1, .inr (.inl f))) ∧ RLt 0 M'')) (kk : ∀ M2, RL M2 → TG (ZL b N xs) G mi_lw 671 [(4, .int (nI i)), (3, .ref 451), (2, .ref 373), (1, .ref 61)] [] M2 (kc + 1) (ks + 6) (fun _ _ => True)) : TG (ZL b N xs) G mi_lw 450 [(4, .int (nI i)), (3, .ref 451), (2, .ref 373), (1, .ref 61)] [] M kc ks (fun _ _ => True) := by
  refine G_aload_n (v := .ref 61) d_lw_450 rfl (Or.inr ⟨_, rfl⟩) ?_
  refine L_ld (i := i) (k := 1) d_lw_451 d_lw_452 d_lw_454 d_lw_455 d_lw_456 rfl rfl (by omega) (by omega) ?_
  refine L_ld (i := i) (k := 2) d_lw_457 d_lw_458 d_lw_460 d_lw_461 d_lw_462 rfl rfl (by omega) (by omega) ?_
  refine L_ld (i := i) (k := 3) d_lw_463 d_lw_464 d_lw_466 d_lw_467 d_lw_468 rfl rfl (by omega) (by omega) ?_
  refine G_aload_n (v := .ref 451) d_lw_469 rfl (Or.inr ⟨_, rfl⟩) ?_
  refine G_staticH (as := [.ref 61, .int (xs (i + 1)), .int (xs (i + 2)), .int (xs (i + 3)), .ref 451]) (rest := []) (mj := mi_lwire) (hs := [(0, 12, 15, 13)]) (fun p e s c h => h.1) d_lw_470 rfl (jh_lwire (by decide)) lm_lw_85 jt_lwire rfl (by decide) (by show kc + 1 ≤ 601024; omega) (by show ks + 6 ≤ 7293000; omega) (hx_wire_ret h61 hf h1) (fun r1 M1 hq => ?_)
  obtain ⟨rfl, g, g0, rfl⟩ := hq
  obtain ⟨w1, h373⟩ := hm
  have h373 := (kp_451 (c := oq g) 373 (by decide)).trans h373
  show TG (ZL b N xs) G mi_lw 473 [(4, .int (nI i)), (3, .ref 451), (2, .ref 373), (1, .ref 61)] [.int (nI 0)] (M.set 451 (oq g)) (kc + 1) (ks + 6) (fun _ _ => True)
  refine G_istore (L' := [(5, .int (nI 0)), (4, .int (nI i)), (3, .ref 451), (2, .ref 373), (1, .ref 61)]) d_lw_473 (by decide) rfl rfl ?_
  refine G_aload_n (v := .ref 373) d_lw_475 rfl (Or.inr ⟨_, rfl⟩) ?_
  refine L_ld (i := i) (k := 1) d_lw_476 d_lw_477 d_lw_479 d_lw_480 d_lw_481 rfl rfl (by omega) (by omega) ?_
  refine L_ld (i := i) (k := 2) d_lw_482 d_lw_483 d_lw_485 d_lw_486 d_lw_487 rfl rfl (by omega) (by omega) ?_
  refine L_ld (i := i) (k := 3) d_lw_488 d_lw_489 d_lw_491 d_lw_492 d_lw_493 rfl rfl (by omega) (by omega) ?_
  refine G_virtual (as := [.int (xs (i + 1)), .int (xs (i + 2)), .int (xs (i + 3))]) (rest := []) (b := 373) (mj := mi_Mo_wire) d_lw_494 rfl (jw_Mo_wire.jo (by decide)) lm_lw_88 ji_Mo_wire js_Mo_wire h373 rfl rfl rfl (Nat.le_of_ble_eq_true rfl) (by show kc + 1 + 0 ≤ 601024; omega) (by show ks + 6 + 0 ≤ 7293000; omega) (h2 _ g kp_451 (at_451 hf)) (fun r1 M2 hq => ?_)
  obtain ⟨rfl, hg, hR⟩ := hq
  show TG (ZL b N xs) G mi_lw 497 [(5, .int (nI 0)), (4, .int (nI i)), (3, .ref 451), (2, .ref 373), (1, .ref 61)] [.int r] M2 (kc + 1) (ks + 6) (fun _ _ => True)
  refine G_istore (L' := [(6, .int r), (5, .int (nI 0)), (4, .int (nI i)), (3, .ref 451), (2, .ref 373), (1, .ref 61)]) d_lw_497 (by decide) rfl rfl ?_
  obtain ⟨w2, h3⟩ := hR.mo
  refine G_aload_n (v := .ref 373) d_lw_499 rfl (Or.inr ⟨_, rfl⟩) ?_
  refine G_virtual (as := []) (rest := []) (b := 373) (mj := mi_Mo_thrown) d_lw_500 rfl (jw_Mo_thrown.jo (by decide)) lm_lw_61 ji_Mo_thrown js_Mo_thrown h3 rfl rfl rfl (Nat.le_of_ble_eq_true rfl) (by show kc + 1 + 0 ≤ 601024; omega) (by show ks + 6 + 0 ≤ 7293000; omega) (th_of G hR) (fun r1 M3 hq => ?_)
  obtain ⟨rfl, rfl⟩ := hq
  show TG (ZL b N xs) G mi_lw 503 [(6, .int r), (5, .int (nI 0)), (4, .int (nI i)), (3, .ref 451), (2, .ref 373), (1, .ref 61)] [.int (nI 0)] M3 (kc + 1) (ks + 6) (fun _ _ => True)
  refine G_iload d_lw_503 rfl ?_
  refine G_icmp_eq d_lw_505 (tgt := 510) rfl (fun _ => ?_) (fun c => absurd rfl c)
  refine G_iload d_lw_510 rfl ?_
  refine G_if_ne d_lw_512 (tgt := 527) rfl (fun c => absurd (show nI 0 = 0 by decide) c) (fun _ => ?_)
  refine G_aload_n (v := .ref 451) d_lw_515 rfl (Or.inr ⟨_, rfl⟩) ?_
  refine G_iconst (v := nI 0) d_lw_516 (by decide) ?_
  refine G_laload (n := 1) d_lw_517 hg (vp_in_nI (by decide) (by decide)) ?_
  refine G_eq (st' := [.long r.toInt64]) rfl rfl (by rw [nI_clamp (by decide), g0]) rfl ?_
  refine G_iload d_lw_518 rfl ?_
  refine G_i2l d_lw_520 ?_
  refine G_lcmp d_lw_521 ?_
  refine G_if_eq d_lw_522 (tgt := 527) rfl (fun _ => ?_) (fun c => absurd (lcmp_s _) c)
  refine G_goto (tgt := 671) d_lw_527 rfl ?_
  refine G_sub (L' := [(4, .int (nI i)), (3, .ref 451), (2, .ref 373), (1, .ref 61)]) (fun q hq => List.mem_cons_of_mem _ (List.mem_cons_of_mem _ hq)) ?_
  exact kk _ hR.rl
theorem lx_11 {b N : Nat} {xs : Nat → Int32} {G : GX} {M : List va_E} {i kc ks : Nat} (hi : i + 6 ≤ N) (hN : N ≤ 3073) (hkc : kc + 1 ≤ 601024) (hks : ks + 6 ≤ 7293000) (h61 : M[61]? = some pgO) (hM : RL M) (h : PXm G mt_PG_wire mi_PG_wire mi_Mo_wire [.int (xs (i + 1)), .int (xs (i + 2)), .int (xs (i + 3))] M) (kk : ∀ M2, RL M2 → TG (ZL b N xs) G mi_lw 671 [(4, .int (nI i)), (3, .ref 451), (2, .ref 373), (1, .ref 61)] [] M2 (kc + 1) (ks + 6) (fun _ _ => True)) : TG (ZL b N xs) G mi_lw 450 [(4, .int (nI i)), (3, .ref 451), (2, .ref 373), (1, .ref 61)] [] M kc ks (fun _ _ => True) := by
  rcases h with ⟨h1, h2⟩ | ⟨r, h1, h2⟩
  · exact lx_11t hi hN hkc hks h61 hM.mo h1 h2 kk
  · obtain ⟨f, hf⟩ := hM.ou; exact lx_11r hi hN hkc hks h61 hM.mo hf h1 h2 kk
set_option maxHeartbeats 8000000 in
theorem lx_12 {b N : Nat} {xs : Nat → Int32} {G : GX} {M : List va_E} {i kc ks : Nat} (hi : i + 6 ≤ N) (hN : N ≤ 3073) (hkc : kc + 1 ≤ 601024) (hks : ks + 6 ≤ 7293000) (h61 : M[61]? = some pgO) (h : PRm G mi_PG_tamper mi_Mo_tamper [.int (xs (i + 1)), .int (xs (i + 2)), .int (xs (i + 3)), .int (xs (i + 4))] M) (kk : ∀ M2, RL M2 → TG (ZL b N xs) G mi_lw 671 [(4, .int (nI i)), (3, .ref 451), (2, .ref 373), (1, .ref 61)] [] M2 kc ks (fun _ _ => True)) : TG (ZL b N xs) G mi_lw 530 [(4, .int (nI i)), (3, .ref 451), (2, .ref 373), (1, .ref 61)] [] M kc ks (fun _ _ => True) := by
  obtain ⟨r, Q1, h0, h1, h2⟩ := h
  refine G_aload_n (v := .ref 61) d_lw_530 rfl (Or.inr ⟨_, rfl⟩) ?_
  refine L_ld (i := i) (k := 1) d_lw_531 d_lw_532 d_lw_534 d_lw_535 d_lw_536 rfl rfl (by omega) (by omega) ?_
  refine L_ld (i := i) (k := 2) d_lw_537 d_lw_538 d_lw_540 d_lw_541 d_lw_542 rfl rfl (by omega) (by omega) ?_
  refine L_ld (i := i) (k := 3) d_lw_543 d_lw_544 d_lw_546 d_lw_547 d_lw_548 rfl rfl (by omega) (by omega) ?_
  refine L_ld (i := i) (k := 4) d_lw_549 d_lw_550 d_lw_552 d_lw_553 d_lw_554 rfl rfl (by omega) (by omega) ?_
  refine G_virtual (as := [.int (xs (i + 1)), .int (xs (i + 2)), .int (xs (i + 3)), .int (xs (i + 4))]) (rest := []) (b := 61) (mj := mi_PG_tamper) d_lw_555 rfl (jw_PG_tamper.jo (by decide)) lm_lw_89 ji_PG_tamper js_PG_tamper h61 rfl rfl rfl (Nat.le_of_ble_eq_true rfl) (by show kc + 0 ≤ 601024; omega) (by show ks + 0 ≤ 7293000; omega) h1 (fun r1 M1 hq => ?_)
  obtain ⟨rfl, hq1⟩ := hq
  obtain ⟨w1, h373⟩ := h0 M1 hq1
  show TG (ZL b N xs) G mi_lw 558 [(4, .int (nI i)), (3, .ref 451), (2, .ref 373), (1, .ref 61)] [.int r] M1 kc ks (fun _ _ => True)
  refine G_aload_n (v := .ref 373) d_lw_558 rfl (Or.inr ⟨_, rfl⟩) ?_
  refine L_ld (i := i) (k := 1) d_lw_559 d_lw_560 d_lw_562 d_lw_563 d_lw_564 rfl rfl (by omega) (by omega) ?_
  refine L_ld (i := i) (k := 2) d_lw_565 d_lw_566 d_lw_568 d_lw_569 d_lw_570 rfl rfl (by omega) (by omega) ?_
  refine L_ld (i := i) (k := 3) d_lw_571 d_lw_572 d_lw_574 d_lw_575 d_lw_576 rfl rfl (by omega) (by omega) ?_
  refine L_ld (i := i) (k := 4) d_lw_577 d_lw_578 d_lw_580 d_lw_581 d_lw_582 rfl rfl (by omega) (by omega) ?_
  refine G_virtual (as := [.int (xs (i + 1)), .int (xs (i + 2)), .int (xs (i + 3)), .int (xs (i + 4))]) (rest := [.int r]) (b := 373) (mj := mi_Mo_tamper) d_lw_583 rfl (jw_Mo_tamper.jo (by decide)) lm_lw_93 ji_Mo_tamper js_Mo_tamper h373 rfl rfl rfl (Nat.le_of_ble_eq_true rfl) (by show kc + 0 ≤ 601024; omega) (by show ks + 0 ≤ 7293000; omega) (h2 M1 hq1) (fun r1 M2 hq => ?_)
  obtain ⟨rfl, hR⟩ := hq
  show TG (ZL b N xs) G mi_lw 586 [(4, .int (nI i)), (3, .ref 451), (2, .ref 373), (1, .ref 61)] [.int r, .int r] M2 kc ks (fun _ _ => True)
  refine G_icmp_eq d_lw_586 (tgt := 671) rfl (fun _ => ?_) (fun c => absurd rfl c)
  exact kk M2 hR
set_option maxHeartbeats 8000000 in
theorem lx_13t {b N : Nat} {xs : Nat → Int32} {G : GX} {M : List va_E} {i kc ks : Nat} (hi : i + 6 ≤ N) (hN : N ≤ 3073) (hkc : kc + 1 ≤ 601024) (hks : ks + 6 ≤ 7293000) (h61 : M[61]? = some pgO) (hm : ∃ w, M[373]? = some (moO w)) (h1 : CTx G mt_PG_key (.ref 61 :: [.int (xs (i + 1)), .int (xs (i + 2)), .int (xs (i + 3))]) M (fun _ M' => M' = M)) (h2 : CT G mi_Mo_key (.ref 373 :: [.int (xs (i + 1)), .int (xs (i + 2)), .int (xs (i + 3))]) M (fun r' M'' => (∃ z : Int32, r' = some (.int z)) ∧ RLt 1 M'')) (kk : ∀ M2, RL M2 → TG (ZL b N xs) G mi_lw 671 [(4, .int (nI i)), (3, .ref 451), (2, .ref 373), (1, .ref 61)] [] M2 (kc + 1) (ks + 6) (fun _ _ => True)) : TG (ZL b N xs) G mi_lw 591 [(4, .int (nI i)), (3, .ref 451), (2, .ref 373), (1, .ref 61)] [] M kc ks (fun _ _ => True) := by
  refine G_aload_n (v := .ref 61) d_lw_591 rfl (Or.inr ⟨_, rfl⟩) ?_
  refine L_ld (i := i) (k := 1) d_lw_592 d_lw_593 d_lw_595 d_lw_596 d_lw_597 rfl rfl (by omega) (by omega) ?_
  refine L_ld (i := i) (k := 2) d_lw_598 d_lw_599 d_lw_601 d_lw_602 d_lw_603 rfl rfl (by omega) (by omega) ?_
  refine L_ld (i := i) (k := 3) d_lw_604 d_lw_605 d_lw_607 d_lw_608 d_lw_609 rfl rfl (by omega) (by omega) ?_
  refine G_aload_n (v := .ref 451) d_lw_610 rfl (Or.inr ⟨_, rfl⟩) ?_
  refine G_staticH (as := [.ref 61, .int (xs (i + 1)), .int (xs (i + 2)), .int (xs (i + 3)), .ref 451]) (rest := []) (mj := mi_lkey) (hs := [(0, 12, 15, 13)]) (fun p e s c h => h.1) d_lw_611 rfl (jh_lkey (by decide)) lm_lw_94 jt_lkey rfl (by decide) (by show kc + 1 ≤ 601024; omega) (by show ks + 6 ≤ 7293000; omega) (hx_key_thr h61 h1) (fun r1 M1 hq => ?_)
  obtain ⟨rfl, rfl⟩ := hq
  obtain ⟨w1, h373⟩ := hm
  show TG (ZL b N xs) G mi_lw 614 [(4, .int (nI i)), (3, .ref 451), (2, .ref 373), (1, .ref 61)] [.int (nI 1)] M1 (kc + 1) (ks + 6) (fun _ _ => True)
  refine G_istore (L' := [(5, .int (nI 1)), (4, .int (nI i)), (3, .ref 451), (2, .ref 373), (1, .ref 61)]) d_lw_614 (by decide) rfl rfl ?_
  refine G_aload_n (v := .ref 373) d_lw_616 rfl (Or.inr ⟨_, rfl⟩) ?_
  refine L_ld (i := i) (k := 1) d_lw_617 d_lw_618 d_lw_620 d_lw_621 d_lw_622 rfl rfl (by omega) (by omega) ?_
  refine L_ld (i := i) (k := 2) d_lw_623 d_lw_624 d_lw_626 d_lw_627 d_lw_628 rfl rfl (by omega) (by omega) ?_
  refine L_ld (i := i) (k := 3) d_lw_629 d_lw_630 d_lw_632 d_lw_633 d_lw_634 rfl rfl (by omega) (by omega) ?_
  refine G_virtual (as := [.int (xs (i + 1)), .int (xs (i + 2)), .int (xs (i + 3))]) (rest := []) (b := 373) (mj := mi_Mo_key) d_lw_635 rfl (jw_Mo_key.jo (by decide)) lm_lw_96 ji_Mo_key js_Mo_key h373 rfl rfl rfl (Nat.le_of_ble_eq_true rfl) (by show kc + 1 + 0 ≤ 601024; omega) (by show ks + 6 + 0 ≤ 7293000; omega) h2 (fun r1 M2 hq => ?_)
  obtain ⟨⟨z, rfl⟩, hR⟩ := hq
  show TG (ZL b N xs) G mi_lw 638 [(5, .int (nI 1)), (4, .int (nI i)), (3, .ref 451), (2, .ref 373), (1, .ref 61)] [.int z] M2 (kc + 1) (ks + 6) (fun _ _ => True)
  refine G_istore (L' := [(6, .int z), (5, .int (nI 1)), (4, .int (nI i)), (3, .ref 451), (2, .ref 373), (1, .ref 61)]) d_lw_638 (by decide) rfl rfl ?_
  obtain ⟨w2, h3⟩ := hR.mo
  refine G_aload_n (v := .ref 373) d_lw_640 rfl (Or.inr ⟨_, rfl⟩) ?_
  refine G_virtual (as := []) (rest := []) (b := 373) (mj := mi_Mo_thrown) d_lw_641 rfl (jw_Mo_thrown.jo (by decide)) lm_lw_61 ji_Mo_thrown js_Mo_thrown h3 rfl rfl rfl (Nat.le_of_ble_eq_true rfl) (by show kc + 1 + 0 ≤ 601024; omega) (by show ks + 6 + 0 ≤ 7293000; omega) (th_of G hR) (fun r1 M3 hq => ?_)
  obtain ⟨rfl, rfl⟩ := hq
  show TG (ZL b N xs) G mi_lw 644 [(6, .int z), (5, .int (nI 1)), (4, .int (nI i)), (3, .ref 451), (2, .ref 373), (1, .ref 61)] [.int (nI 1)] M3 (kc + 1) (ks + 6) (fun _ _ => True)
  refine G_iload d_lw_644 rfl ?_
  refine G_icmp_eq d_lw_646 (tgt := 651) rfl (fun _ => ?_) (fun c => absurd rfl c)
  refine G_iload d_lw_651 rfl ?_
  refine G_if_ne d_lw_653 (tgt := 668) rfl (fun _ => ?_) (fun c => absurd c (by decide))
  refine G_goto (tgt := 671) d_lw_668 rfl ?_
  refine G_sub (L' := [(4, .int (nI i)), (3, .ref 451), (2, .ref 373), (1, .ref 61)]) (fun q hq => List.mem_cons_of_mem _ (List.mem_cons_of_mem _ hq)) ?_
  exact kk _ hR.rl
set_option maxHeartbeats 8000000 in
theorem lx_13r {b N : Nat} {xs : Nat → Int32} {G : GX} {M : List va_E} {i kc ks : Nat} (hi : i + 6 ≤ N) (hN : N ≤ 3073) (hkc : kc + 1 ≤ 601024) (hks : ks + 6 ≤ 7293000) (h61 : M[61]? = some pgO) (hm : ∃ w, M[373]? = some (moO w)) {f : Nat → Int64} {r : Int32} (hf : M[451]? = some (.inl (0, 1, .inr (.inl f)))) (h1 : CT G mi_PG_key (.ref 61 :: [.int (xs (i + 1)), .int (xs (i + 2)), .int (xs (i + 3))]) M (fun r' M' => r' = some (.int r) ∧ M' = M)) (h2 : ∀ M' f, Kp [451] M M' → M'[451]? = some (.inl (0, 1, .inr (.inl f))) → CT G mi_Mo_key (.ref 373 :: [.int (xs (i + 1)), .int (xs (i + 2)), .int (xs (i + 3))]) M' (fun r' M'' => r' = some (.int r) ∧ M''[451]? = some (.inl (0, 1, .inr (.inl f))) ∧ RLt 0 M'')) (kk : ∀ M2, RL M2 → TG (ZL b N xs) G mi_lw 671 [(4, .int (nI i)), (3, .ref 451), (2, .ref 373), (1, .ref 61)] [] M2 (kc + 1) (ks + 6) (fun _ _ => True)) : TG (ZL b N xs) G mi_lw 591 [(4, .int (nI i)), (3, .ref 451), (2, .ref 373), (1, .ref 61)] [] M kc ks (fun _ _ => True) := by
  refine G_aload_n (v := .ref 61) d_lw_591 rfl (Or.inr ⟨_, rfl⟩) ?_
  refine L_ld (i := i) (k := 1) d_lw_592 d_lw_593 d_lw_595 d_lw_596 d_lw_597 rfl rfl (by omega) (by omega) ?_
  refine L_ld (i := i) (k := 2) d_lw_598 d_lw_599 d_lw_601 d_lw_602 d_lw_603 rfl rfl (by omega) (by omega) ?_
  refine L_ld (i := i) (k := 3) d_lw_604 d_lw_605 d_lw_607 d_lw_608 d_lw_609 rfl rfl (by omega) (by omega) ?_
  refine G_aload_n (v := .ref 451) d_lw_610 rfl (Or.inr ⟨_, rfl⟩) ?_
  refine G_staticH (as := [.ref 61, .int (xs (i + 1)), .int (xs (i + 2)), .int (xs (i + 3)), .ref 451]) (rest := []) (mj := mi_lkey) (hs := [(0, 12, 15, 13)]) (fun p e s c h => h.1) d_lw_611 rfl (jh_lkey (by decide)) lm_lw_94 jt_lkey rfl (by decide) (by show kc + 1 ≤ 601024; omega) (by show ks + 6 ≤ 7293000; omega) (hx_key_ret h61 hf h1) (fun r1 M1 hq => ?_)
  obtain ⟨rfl, g, g0, rfl⟩ := hq
  obtain ⟨w1, h373⟩ := hm
  have h373 := (kp_451 (c := oq g) 373 (by decide)).trans h373
  show TG (ZL b N xs) G mi_lw 614 [(4, .int (nI i)), (3, .ref 451), (2, .ref 373), (1, .ref 61)] [.int (nI 0)] (M.set 451 (oq g)) (kc + 1) (ks + 6) (fun _ _ => True)
  refine G_istore (L' := [(5, .int (nI 0)), (4, .int (nI i)), (3, .ref 451), (2, .ref 373), (1, .ref 61)]) d_lw_614 (by decide) rfl rfl ?_
  refine G_aload_n (v := .ref 373) d_lw_616 rfl (Or.inr ⟨_, rfl⟩) ?_
  refine L_ld (i := i) (k := 1) d_lw_617 d_lw_618 d_lw_620 d_lw_621 d_lw_622 rfl rfl (by omega) (by omega) ?_
  refine L_ld (i := i) (k := 2) d_lw_623 d_lw_624 d_lw_626 d_lw_627 d_lw_628 rfl rfl (by omega) (by omega) ?_
  refine L_ld (i := i) (k := 3) d_lw_629 d_lw_630 d_lw_632 d_lw_633 d_lw_634 rfl rfl (by omega) (by omega) ?_
  refine G_virtual (as := [.int (xs (i + 1)), .int (xs (i + 2)), .int (xs (i + 3))]) (rest := []) (b := 373) (mj := mi_Mo_key) d_lw_635 rfl (jw_Mo_key.jo (by decide)) lm_lw_96 ji_Mo_key js_Mo_key h373 rfl rfl rfl (Nat.le_of_ble_eq_true rfl) (by show kc + 1 + 0 ≤ 601024; omega) (by show ks + 6 + 0 ≤ 7293000; omega) (h2 _ g kp_451 (at_451 hf)) (fun r1 M2 hq => ?_)
  obtain ⟨rfl, hg, hR⟩ := hq
  show TG (ZL b N xs) G mi_lw 638 [(5, .int (nI 0)), (4, .int (nI i)), (3, .ref 451), (2, .ref 373), (1, .ref 61)] [.int r] M2 (kc + 1) (ks + 6) (fun _ _ => True)
  refine G_istore (L' := [(6, .int r), (5, .int (nI 0)), (4, .int (nI i)), (3, .ref 451), (2, .ref 373), (1, .ref 61)]) d_lw_638 (by decide) rfl rfl ?_
  obtain ⟨w2, h3⟩ := hR.mo
  refine G_aload_n (v := .ref 373) d_lw_640 rfl (Or.inr ⟨_, rfl⟩) ?_
  refine G_virtual (as := []) (rest := []) (b := 373) (mj := mi_Mo_thrown) d_lw_641 rfl (jw_Mo_thrown.jo (by decide)) lm_lw_61 ji_Mo_thrown js_Mo_thrown h3 rfl rfl rfl (Nat.le_of_ble_eq_true rfl) (by show kc + 1 + 0 ≤ 601024; omega) (by show ks + 6 + 0 ≤ 7293000; omega) (th_of G hR) (fun r1 M3 hq => ?_)
  obtain ⟨rfl, rfl⟩ := hq
  show TG (ZL b N xs) G mi_lw 644 [(6, .int r), (5, .int (nI 0)), (4, .int (nI i)), (3, .ref 451), (2, .ref 373), (1, .ref 61)] [.int (nI 0)] M3 (kc + 1) (ks + 6) (fun _ _ => True)
  refine G_iload d_lw_644 rfl ?_
  refine G_icmp_eq d_lw_646 (tgt := 651) rfl (fun _ => ?_) (fun c => absurd rfl c)
  refine G_iload d_lw_651 rfl ?_
  refine G_if_ne d_lw_653 (tgt := 668) rfl (fun c => absurd (show nI 0 = 0 by decide) c) (fun _ => ?_)
  refine G_aload_n (v := .ref 451) d_lw_656 rfl (Or.inr ⟨_, rfl⟩) ?_
  refine G_iconst (v := nI 0) d_lw_657 (by decide) ?_
  refine G_laload (n := 1) d_lw_658 hg (vp_in_nI (by decide) (by decide)) ?_
  refine G_eq (st' := [.long r.toInt64]) rfl rfl (by rw [nI_clamp (by decide), g0]) rfl ?_
  refine G_iload d_lw_659 rfl ?_
  refine G_i2l d_lw_661 ?_
  refine G_lcmp d_lw_662 ?_
  refine G_if_eq d_lw_663 (tgt := 668) rfl (fun _ => ?_) (fun c => absurd (lcmp_s _) c)
  refine G_goto (tgt := 671) d_lw_668 rfl ?_
  refine G_sub (L' := [(4, .int (nI i)), (3, .ref 451), (2, .ref 373), (1, .ref 61)]) (fun q hq => List.mem_cons_of_mem _ (List.mem_cons_of_mem _ hq)) ?_
  exact kk _ hR.rl
theorem lx_13 {b N : Nat} {xs : Nat → Int32} {G : GX} {M : List va_E} {i kc ks : Nat} (hi : i + 6 ≤ N) (hN : N ≤ 3073) (hkc : kc + 1 ≤ 601024) (hks : ks + 6 ≤ 7293000) (h61 : M[61]? = some pgO) (hM : RL M) (h : PXm G mt_PG_key mi_PG_key mi_Mo_key [.int (xs (i + 1)), .int (xs (i + 2)), .int (xs (i + 3))] M) (kk : ∀ M2, RL M2 → TG (ZL b N xs) G mi_lw 671 [(4, .int (nI i)), (3, .ref 451), (2, .ref 373), (1, .ref 61)] [] M2 (kc + 1) (ks + 6) (fun _ _ => True)) : TG (ZL b N xs) G mi_lw 591 [(4, .int (nI i)), (3, .ref 451), (2, .ref 373), (1, .ref 61)] [] M kc ks (fun _ _ => True) := by
  rcases h with ⟨h1, h2⟩ | ⟨r, h1, h2⟩
  · exact lx_13t hi hN hkc hks h61 hM.mo h1 h2 kk
  · obtain ⟨f, hf⟩ := hM.ou; exact lx_13r hi hN hkc hks h61 hM.mo hf h1 h2 kk
set_option maxHeartbeats 8000000 in
theorem lx_head {b N : Nat} {xs : Nat → Int32} {G : GX} {M : List va_E} {i kc ks : Nat} (hi : i < 100000) (hN : N ≤ 3073) (hkc : kc ≤ 601024) (hks : ks ≤ 7293000) (kk : i + 6 ≤ N → TG (ZL b N xs) G mi_lw 43 [(4, .int (nI i)), (3, .ref 451), (2, .ref 373), (1, .ref 61)] [] M kc ks (fun _ _ => True)) : TG (ZL b N xs) G mi_lw 33 [(4, .int (nI i)), (3, .ref 451), (2, .ref 373), (1, .ref 61)] [] M kc ks (fun _ _ => True) := by
  refine G_iload d_lw_33 rfl ?_
  refine L_len d_lw_35 d_lw_36 ?_
  refine G_bipush (v := nI 6) d_lw_37 (by decide) ?_
  refine G_isub d_lw_39 ?_
  refine G_icmp_gt d_lw_40 (tgt := 677) rfl (fun _ => ?_) (fun hc => ?_)
  · refine G_iconst (v := nI 1) d_lw_677 (by decide) ?_
    exact G_retL d_lw_678 hkc hks
  · refine kk ?_
    by_cases h6 : 6 ≤ N
    · rw [pk_sub h6] at hc
      have hn : ¬ N - 6 < i := fun h => hc ((nI_ltI (by omega) (by omega)).mpr h)
      omega
    · exfalso
      have h7 : N = 0 ∨ N = 1 ∨ N = 2 ∨ N = 3 ∨ N = 4 ∨ N = 5 := by omega
      have hp : (0 : Int32) ≤ nI i := nI_pos' (by omega)
      have hz : nI N - nI 6 < 0 := by rcases h7 with rfl | rfl | rfl | rfl | rfl | rfl <;> decide
      exact hc (Int32.lt_of_lt_of_le hz hp)
def ltq (j : Nat) : Nat := ([120, 193, 218, 231, 244, 257, 313, 338, 375, 400, 425, 450, 530, 591] : List Nat).getD j 671
set_option maxHeartbeats 8000000 in
theorem lx_switch {b N : Nat} {xs : Nat → Int32} {G : GX} {M : List va_E} {i kc ks : Nat} (hi : i + 6 ≤ N) (hN : N ≤ 3073) (kk : ∀ j, j < 14 → TG (ZL b N xs) G mi_lw (ltq j) [(4, .int (nI i)), (3, .ref 451), (2, .ref 373), (1, .ref 61)] [] M kc ks (fun _ _ => True)) (kd : TG (ZL b N xs) G mi_lw 671 [(4, .int (nI i)), (3, .ref 451), (2, .ref 373), (1, .ref 61)] [] M kc ks (fun _ _ => True)) : TG (ZL b N xs) G mi_lw 43 [(4, .int (nI i)), (3, .ref 451), (2, .ref 373), (1, .ref 61)] [] M kc ks (fun _ _ => True) := by
  refine L_ld0 (i := i) d_lw_43 d_lw_44 d_lw_46 rfl (by omega) (by omega) ?_
  refine G_bipush (v := nI 15) d_lw_47 (by decide) ?_
  refine G_iand d_lw_49 ?_
  obtain ⟨j, hj, e⟩ := pk_andE (xs i) (m := nI 15) 4 (by decide)
  rw [e]
  have h16 : j = 0 ∨ j = 1 ∨ j = 2 ∨ j = 3 ∨ j = 4 ∨ j = 5 ∨ j = 6 ∨ j = 7 ∨ j = 8 ∨ j = 9 ∨ j = 10 ∨ j = 11 ∨ j = 12 ∨ j = 13 ∨ j = 14 ∨ j = 15 := by omega
  rcases h16 with rfl | rfl | rfl | rfl | rfl | rfl | rfl | rfl | rfl | rfl | rfl | rfl | rfl | rfl | rfl | rfl
  · exact G_tableIn (mi := mi_lw) (off := 70) d_lw_50 (by decide) (by decide) (by decide) (tgt := 120) rfl (kk 0 (by decide))
  · exact G_tableIn (mi := mi_lw) (off := 143) d_lw_50 (by decide) (by decide) (by decide) (tgt := 193) rfl (kk 1 (by decide))
  · exact G_tableIn (mi := mi_lw) (off := 168) d_lw_50 (by decide) (by decide) (by decide) (tgt := 218) rfl (kk 2 (by decide))
  · exact G_tableIn (mi := mi_lw) (off := 181) d_lw_50 (by decide) (by decide) (by decide) (tgt := 231) rfl (kk 3 (by decide))
  · exact G_tableIn (mi := mi_lw) (off := 194) d_lw_50 (by decide) (by decide) (by decide) (tgt := 244) rfl (kk 4 (by decide))
  · exact G_tableIn (mi := mi_lw) (off := 207) d_lw_50 (by decide) (by decide) (by decide) (tgt := 257) rfl (kk 5 (by decide))
  · exact G_tableIn (mi := mi_lw) (off := 263) d_lw_50 (by decide) (by decide) (by decide) (tgt := 313) rfl (kk 6 (by decide))
  · exact G_tableIn (mi := mi_lw) (off := 288) d_lw_50 (by decide) (by decide) (by decide) (tgt := 338) rfl (kk 7 (by decide))
  · exact G_tableIn (mi := mi_lw) (off := 325) d_lw_50 (by decide) (by decide) (by decide) (tgt := 375) rfl (kk 8 (by decide))
  · exact G_tableIn (mi := mi_lw) (off := 350) d_lw_50 (by decide) (by decide) (by decide) (tgt := 400) rfl (kk 9 (by decide))
  · exact G_tableIn (mi := mi_lw) (off := 375) d_lw_50 (by decide) (by decide) (by decide) (tgt := 425) rfl (kk 10 (by decide))
  · exact G_tableIn (mi := mi_lw) (off := 400) d_lw_50 (by decide) (by decide) (by decide) (tgt := 450) rfl (kk 11 (by decide))
  · exact G_tableIn (mi := mi_lw) (off := 480) d_lw_50 (by decide) (by decide) (by decide) (tgt := 530) rfl (kk 12 (by decide))
  · exact G_tableIn (mi := mi_lw) (off := 541) d_lw_50 (by decide) (by decide) (by decide) (tgt := 591) rfl (kk 13 (by decide))
  · exact G_tableOut (mi := mi_lw) d_lw_50 (by decide) (tgt := 671) rfl kd
  · exact G_tableOut (mi := mi_lw) d_lw_50 (by decide) (tgt := 671) rfl kd
theorem lx_next {b N : Nat} {xs : Nat → Int32} {G : GX} {M : List va_E} {i kc ks : Nat} (kk : TG (ZL b N xs) G mi_lw 33 [(4, .int (nI (i + 6))), (3, .ref 451), (2, .ref 373), (1, .ref 61)] [] M kc ks (fun _ _ => True)) : TG (ZL b N xs) G mi_lw 671 [(4, .int (nI i)), (3, .ref 451), (2, .ref 373), (1, .ref 61)] [] M kc ks (fun _ _ => True) := by
  refine G_iinc (x := nI i) (L' := [(4, .int (nI (i + 6))), (3, .ref 451), (2, .ref 373), (1, .ref 61)]) d_lw_671 (by decide) rfl (by rw [show Int32.ofInt 6 = nI 6 from rfl, nI_add]; rfl) rfl ?_
  exact G_goto (tgt := 33) d_lw_674 rfl kk
set_option maxHeartbeats 8000000 in
theorem lx_loop {b N : Nat} {xs : Nat → Int32} {G : GX} (hN : N ≤ 3073) (hNT : G.1.stackTraces = false) : ∀ (n i kc ks : Nat) (M : List va_E), N ≤ i + 6 * n → i ≤ 3079 → kc + n ≤ 3000 → ks + 6 * n ≤ 100000 → RL M → TG (ZL b N xs) G mi_lw 33 [(4, .int (nI i)), (3, .ref 451), (2, .ref 373), (1, .ref 61)] [] M kc ks (fun _ _ => True) := by
  intro n
  induction n with
  | zero => exact fun i kc ks M h1 h2 h3 h4 h5 => lx_head (by omega) hN (by omega) (by omega) (fun h => absurd h (by omega))
  | succ n ih =>
    intro i kc ks M h1 h2 h3 h4 h
    refine lx_head (by omega) hN (by omega) (by omega) (fun h6 => ?_)
    refine lx_switch h6 hN (fun j hj => ?_) (lx_next (ih (i + 6) kc ks M (by omega) (by omega) (by omega) (by omega) h))
    have h14 : j = 0 ∨ j = 1 ∨ j = 2 ∨ j = 3 ∨ j = 4 ∨ j = 5 ∨ j = 6 ∨ j = 7 ∨ j = 8 ∨ j = 9 ∨ j = 10 ∨ j = 11 ∨ j = 12 ∨ j = 13 := by omega
    rcases h14 with rfl | rfl | rfl | rfl | rfl | rfl | rfl | rfl | rfl | rfl | rfl | rfl | rfl | rfl
    · exact lx_0 h6 hN (by omega) (by omega) h.pg (rl_feed G h (xs (i + 1)) (xs (i + 2)) (xs (i + 3)) (xs (i + 4)) (xs (i + 5))) (fun M2 q => lx_next (ih (i + 6) kc ks M2 (by omega) (by omega) (by omega) (by omega) q))
    · exact lx_1 h6 hN (by omega) (by omega) h.pg (rl_end G h (xs (i + 1))) (fun M2 q => lx_next (ih (i + 6) kc ks M2 (by omega) (by omega) (by omega) (by omega) q))
    · exact lx_2 h6 hN (by omega) (by omega) h.pg (rl_hash G h ) (fun M2 q => lx_next (ih (i + 6) kc ks M2 (by omega) (by omega) (by omega) (by omega) q))
    · exact lx_3 h6 hN (by omega) (by omega) h.pg (rl_group G h ) (fun M2 q => lx_next (ih (i + 6) kc ks M2 (by omega) (by omega) (by omega) (by omega) q))
    · exact lx_4 h6 hN (by omega) (by omega) h.pg (rl_times G h ) (fun M2 q => lx_next (ih (i + 6) kc ks M2 (by omega) (by omega) (by omega) (by omega) q))
    · exact lx_5 h6 hN (by omega) (by omega) h.pg h (rl_result G hNT h (xs (i + 1))) (fun M2 q => lx_next (ih (i + 6) (kc + 1) (ks + 6) M2 (by omega) (by omega) (by omega) (by omega) q))
    · exact lx_6 h6 hN (by omega) (by omega) h.pg (rl_enroll G h (xs (i + 1))) (fun M2 q => lx_next (ih (i + 6) kc ks M2 (by omega) (by omega) (by omega) (by omega) q))
    · exact lx_7 h6 hN (by omega) (by omega) h.pg (rl_begin G h (xs (i + 1)) (xs (i + 2))) (fun M2 q => lx_next (ih (i + 6) kc ks M2 (by omega) (by omega) (by omega) (by omega) q))
    · exact lx_8 h6 hN (by omega) (by omega) h.pg (rl_answer G h (xs (i + 1))) (fun M2 q => lx_next (ih (i + 6) kc ks M2 (by omega) (by omega) (by omega) (by omega) q))
    · exact lx_9 h6 hN (by omega) (by omega) h.pg (rl_finish G h (xs (i + 1))) (fun M2 q => lx_next (ih (i + 6) kc ks M2 (by omega) (by omega) (by omega) (by omega) q))
    · exact lx_10 h6 hN (by omega) (by omega) h.pg (rl_accept G h (xs (i + 1))) (fun M2 q => lx_next (ih (i + 6) kc ks M2 (by omega) (by omega) (by omega) (by omega) q))
    · exact lx_11 h6 hN (by omega) (by omega) h.pg h (rl_wire G hNT h (xs (i + 1)) (xs (i + 2)) (xs (i + 3))) (fun M2 q => lx_next (ih (i + 6) (kc + 1) (ks + 6) M2 (by omega) (by omega) (by omega) (by omega) q))
    · exact lx_12 h6 hN (by omega) (by omega) h.pg (rl_tamper G h (xs (i + 1)) (xs (i + 2)) (xs (i + 3)) (xs (i + 4))) (fun M2 q => lx_next (ih (i + 6) kc ks M2 (by omega) (by omega) (by omega) (by omega) q))
    · exact lx_13 h6 hN (by omega) (by omega) h.pg h (rl_key G hNT h (xs (i + 1)) (xs (i + 2)) (xs (i + 3))) (fun M2 q => lx_next (ih (i + 6) (kc + 1) (ks + 6) M2 (by omega) (by omega) (by omega) (by omega) q))
set_option maxRecDepth 100000 in
set_option maxHeartbeats 4000000 in
theorem lx_open {b N : Nat} {xs : Nat → Int32} {G : GX} (hN : N ≤ 3073) (hNT : G.1.stackTraces = false) : TG (ZL b N xs) G mi_lw 0 [] [] fxc 0 0 (fun _ _ => True) := by
  refine G_new (ci := 0) (q := (Rc_PG, Fc_PG, 6)) (fs := [.null, .null, .null, .null, .null, .null]) d_lw_0 rfl lc_lw_8 in_PG ini_PG df_PG (by decide) (by decide) ?_
  refine G_eq (pc' := 3) (L' := []) (st' := [.ref 61]) (M' := pq_0) rfl rfl (by rw [fxc_len]) rfl ?_
  refine G_dup d_lw_3 rfl ?_
  refine L_cell hN d_lw_4 d_lw_5 d_lw_6 (by decide) (by decide) (by decide) ?_
  refine G_init (as := [.int (sd0 N xs)]) (rest := [.ref 61]) (b := 61) d_lw_9 rfl (JW.jo (mi := mi_lw) (mj := mk_PG_new) jk_PG_new (by decide)) lm_lw_28 ji_PG_new rfl rfl rfl (Nat.le_of_ble_eq_true rfl) (by decide) (by decide) (n_PG_new G pq_0 62 61 rfl (by omega) (by decide) (sd0 N xs) rfl) (fun r M2 hq => ?_)
  rw [hq.1, hq.2]
  refine G_eq (pc' := 12) (L' := []) (st' := [.ref 61]) (M' := pq_M (sd0 N xs)) rfl rfl rfl rfl ?_
  clear hq r M2
  refine G_astore_n (L' := [(1, .ref 61)]) d_lw_12 (by decide) rfl (Or.inr ⟨_, rfl⟩) rfl ?_
  refine G_new (ci := 12) (q := (Rc_Model, Fc_Model, 87)) d_lw_13 rfl lc_lw_31 in_Model ini_Model df_Model (by decide) (by decide) ?_
  refine G_eq (pc' := 16) (L' := [(1, .ref 61)]) (st' := [.ref 373]) (M' := mq_0 (sd0 N xs)) rfl rfl (by rw [pqM_len]) rfl ?_
  refine G_dup d_lw_16 rfl ?_
  refine L_cell hN d_lw_17 d_lw_18 d_lw_19 (by decide) (by decide) (by decide) ?_
  refine G_init (as := [.int (sd0 N xs)]) (rest := [.ref 373]) (b := 373) d_lw_22 rfl (JW.jo (mi := mi_lw) (mj := mk_Mo_new) jk_Mo_new (by decide)) lm_lw_33 ji_Mo_new rfl rfl rfl (Nat.le_of_ble_eq_true rfl) (by decide) (by decide) (n_Mo_newX G (mq_0 (sd0 N xs)) rfl (sd0 N xs) rfl) (fun r M2 hq => ?_)
  obtain ⟨rfl, hq⟩ := hq
  obtain ⟨hl, hR⟩ := rl_init hq
  refine G_eq (pc' := 25) (L' := [(1, .ref 61)]) (st' := [.ref 373]) (M' := M2) rfl rfl rfl rfl ?_
  refine G_astore_n (L' := [(2, .ref 373), (1, .ref 61)]) d_lw_25 (by decide) rfl (Or.inr ⟨_, rfl⟩) rfl ?_
  refine G_iconst (v := nI 1) d_lw_26 (by decide) ?_
  refine G_newJ (N := 1) d_lw_27 (by decide) (by decide) (by decide) (by decide) (by decide) ?_
  refine G_eq (pc' := 29) (L' := [(2, .ref 373), (1, .ref 61)]) (st' := [.ref 451]) (M' := M2 ++ [.inl (0, 1, .inr (.inl fun _ => 0))]) rfl rfl (by rw [hl]) rfl ?_
  refine G_astore_n (L' := [(3, .ref 451), (2, .ref 373), (1, .ref 61)]) d_lw_29 (by decide) rfl (Or.inr ⟨_, rfl⟩) rfl ?_
  refine G_iconst (v := nI 1) d_lw_30 (by decide) ?_
  refine G_istore (L' := [(4, .int (nI 1)), (3, .ref 451), (2, .ref 373), (1, .ref 61)]) d_lw_31 (by decide) rfl rfl ?_
  exact lx_loop hN hNT 512 1 391 56987 _ (by omega) (by decide) (by decide) (by decide) hR.rl

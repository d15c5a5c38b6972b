set_option maxRecDepth 100000 in
set_option maxHeartbeats 4000000 in
theorem c_Mo_answer_2 (G : GX) (v : Nat → Int32) (e67 : v 67 = nI 0) (hv : okv v) : CS G mi_Mo_answer [.ref 373, .int (nI 2)] v (fun r v' => ∃ z : Int32, r = some (.int z) ∧ okv v' ∧ mdf [66, 67, 70, 68, 69, 72, 75, 90, 94, 98, 102, 106, 110, 114, 118, 122, 126] v v' ∧ v' 67 = nI 0) := by
  refine CS.of (by decide) (Nat.le_of_ble_eq_true rfl) ?_
  generalize hQe : (fun (r : Option Value) (v' : Nat → Int32) => ∃ z : Int32, r = some (.int z) ∧ okv v' ∧ mdf [66, 67, 70, 68, 69, 72, 75, 90, 94, 98, 102, 106, 110, 114, 118, 122, 126] v v' ∧ v' 67 = nI 0) = Q
  have hQ : ∀ (z : Int32) (u : Nat → Int32), okv u → mdf [66, 67, 70, 68, 69, 72, 75, 90, 94, 98, 102, 106, 110, 114, 118, 122, 126] v u → u 67 = nI 0 → Q (some (.int z)) u := by rw [← hQe]; exact fun z u h1 h2 f0 => ⟨z, rfl, h1, h2, f0⟩
  clear hQe
  have hm : mdf [66, 67, 70, 68, 69, 72, 75, 90, 94, 98, 102, 106, 110, 114, 118, 122, 126] v v := mdf.rf
  show ST G mi_Mo_answer 0 [(0, .ref 373), (1, .int (nI 2))] [] v 0 0 Q
  refine ST.lift (fun _ _ k => T_aload_n (v := .ref 373) d_Mo_answer_0 rfl (Or.inr ⟨_, rfl⟩) k) ?_
  refine ST.lift (fun _ _ k => T_iconst (v := nI 0) d_Mo_answer_1 (by decide) k) ?_
  refine S_putfield (v' := va_up v 66 (nI 0)) d_Mo_answer_2 (fp_Mo_316 _) (w373 _) (Nat.le_of_ble_eq_true rfl) ⟨rfl, rfl⟩ (u373_0 _ _) ?_
  have hv2 := hv.off (j := 66) (x := (nI 0)) (by decide)
  have hm3 := hm.go (mdf.up (v := v) (j := 66) (x := (nI 0))) (by intro i hi; simp only [List.mem_cons, List.not_mem_nil, or_false] at hi ⊢ <;> omega)
  have e_u1 : (va_up v 66 (nI 0)) 66 = (nI 0) := by simp [va_up]
  have e4 : (va_up v 66 (nI 0)) 67 = nI 0 := by simp only [va_up]; exact e67
  generalize va_up v 66 (nI 0) = u1 at hv2 hm3 e_u1 e4 ⊢
  refine ST.lift (fun _ _ k => T_iload_n d_Mo_answer_5 rfl k) ?_
  refine S_static (as := [.int (nI 2)]) (rest := []) d_Mo_answer_6 rfl (jw_Mo_isSession.jo (by decide)) lm_Mo_545 jt_Mo_isSession rfl (Nat.le_of_ble_eq_true rfl) (by decide) (by decide) (c_Mo_isSession G u1 2 (by omega)) (fun r v' hq => ?_)
  rw [hq.1, hq.2]
  clear hq r v'
  show ST G mi_Mo_answer 9 [(0, .ref 373), (1, .int (nI 2))] [.int (nI 1)] u1 0 0 _
  refine S_if_neN d_Mo_answer_9 rfl (by omega) (fun _ => ?_) (fun c => by first | exact absurd c (by omega) | exact c.elim | exact absurd c (by decide) | exact absurd (by assumption) c | exact absurd c (by assumption))
  refine ST.lift (fun _ _ k => T_aload_n (v := .ref 373) d_Mo_answer_14 rfl (Or.inr ⟨_, rfl⟩) k) ?_
  refine S_getfield d_Mo_answer_15 fg_Mo_392 (w373 _) rfl ?_
  refine ST.lift (fun _ _ k => T_iload_n d_Mo_answer_18 rfl k) ?_
  refine S_xload (t := 3) (k := 2) (Or.inr ⟨rfl, d_Mo_answer_19⟩) rfl (w424 _) (by decide) (by decide) ?_
  refine S_topi (y := u1 98) rfl ?_
  refine S_if_eq d_Mo_answer_20 rfl (fun c5 => ?_) (fun c5 => ?_)
  · refine ST.lift (fun _ _ k => T_iconst (v := nI 2) d_Mo_answer_32 (by decide) k) ?_
    exact S_ret d_Mo_answer_33 rfl rfl (by decide) (by decide) (hQ _ _ hv2 hm3 (e4.trans (congrArg nI (by omega))))
  · refine ST.lift (fun _ _ k => T_aload_n (v := .ref 373) d_Mo_answer_23 rfl (Or.inr ⟨_, rfl⟩) k) ?_
    refine S_getfield d_Mo_answer_24 fg_Mo_401 (w373 _) rfl ?_
    refine ST.lift (fun _ _ k => T_iload_n d_Mo_answer_27 rfl k) ?_
    refine S_xload (t := 3) (k := 2) (Or.inr ⟨rfl, d_Mo_answer_28⟩) rfl (w427 _) (by decide) (by decide) ?_
    refine S_topi (y := u1 110) rfl ?_
    refine S_if_eq d_Mo_answer_29 rfl (fun c6 => ?_) (fun c6 => ?_)
    · refine ST.lift (fun _ _ k => T_iload_n d_Mo_answer_34 rfl k) ?_
      refine ST.lift (fun _ _ k => T_istore_n (L' := [(2, .int (nI 2)), (0, .ref 373), (1, .int (nI 2))]) d_Mo_answer_35 (by decide) rfl k) ?_
      refine ST.lift (fun _ _ k => T_aload_n (v := .ref 373) d_Mo_answer_36 rfl (Or.inr ⟨_, rfl⟩) k) ?_
      refine S_getfield d_Mo_answer_37 fg_Mo_401 (w373 _) rfl ?_
      refine ST.lift (fun _ _ k => T_iload_n d_Mo_answer_40 rfl k) ?_
      refine ST.lift (fun _ _ k => T_iconst (v := nI 1) d_Mo_answer_41 (by decide) k) ?_
      refine S_xstore (k := 2) (y := (nI 1)) (v' := va_up u1 110 (nI 1)) (Or.inr ⟨rfl, by decide, d_Mo_answer_42⟩) (by decide) rfl (w427 _) (by decide) (by decide) (x427_2 _ _) ?_
      have hv8 := hv2.off (j := 110) (x := (nI 1)) (by decide)
      have hm9 := hm3.go (mdf.up (v := u1) (j := 110) (x := (nI 1))) (by intro i hi; simp only [List.mem_cons, List.not_mem_nil, or_false] at hi ⊢ <;> omega)
      have e_u7 : (va_up u1 110 (nI 1)) 110 = (nI 1) := by simp [va_up]
      have e10 : (va_up u1 110 (nI 1)) 67 = nI 0 := by simp only [va_up]; exact e4
      have e11 : (va_up u1 110 (nI 1)) 66 = nI 0 := by simp only [va_up]; exact e_u1
      generalize va_up u1 110 (nI 1) = u7 at hv8 hm9 e_u7 e10 e11 ⊢
      refine ST.lift (fun _ _ k => T_aload_n (v := .ref 373) d_Mo_answer_43 rfl (Or.inr ⟨_, rfl⟩) k) ?_
      refine ST.lift (fun _ _ k => T_bipush (v := nI 12) d_Mo_answer_44 (by decide) k) ?_
      refine ST.lift (fun _ _ k => T_aload_n (v := .ref 373) d_Mo_answer_46 rfl (Or.inr ⟨_, rfl⟩) k) ?_
      refine S_getfield d_Mo_answer_47 fg_Mo_419 (w373 _) rfl ?_
      refine ST.lift (fun _ _ k => T_bipush (v := nI 96) d_Mo_answer_50 (by decide) k) ?_
      refine ST.lift (fun _ _ k => T_iload_n d_Mo_answer_52 rfl k) ?_
      refine S_imulN d_Mo_answer_53 ?_
      refine S_topi (y := nI 192) (by decide) ?_
      refine S_virtual (as := [.int (nI 12), .ref 433, .int (nI 192)]) (rest := []) (b := 373) d_Mo_answer_54 rfl (jw_Mo_decode.jo (by decide)) lm_Mo_502 ji_Mo_decode js_Mo_decode (w373 _) rfl rfl rfl (Nat.le_of_ble_eq_true rfl) (by decide) (by decide) (c_Mo_decode G u7 12 (by omega) 433 384 (by decide) a433 (by omega) 192 (by omega)) (fun r v' hq => ?_)
      obtain ⟨z12, hz12, hr, hv⟩ := hq
      rw [hr, hv]
      clear hr hv r v'
      show ST G mi_Mo_answer 57 [(2, .int (nI 2)), (0, .ref 373), (1, .int (nI 2))] [.int (nI z12)] u7 0 0 _
      refine S_if_eqN d_Mo_answer_57 rfl (by omega) (fun c13 => ?_) (fun c13 => ?_)
      · refine ST.lift (fun _ _ k => T_iconst (v := nI 1) d_Mo_answer_80 (by decide) k) ?_
        exact S_ret d_Mo_answer_81 rfl rfl (by decide) (by decide) (hQ _ _ hv8 hm9 (e10.trans (congrArg nI (by omega))))
      · refine ST.lift (fun _ _ k => T_aload_n (v := .ref 373) d_Mo_answer_60 rfl (Or.inr ⟨_, rfl⟩) k) ?_
        refine ST.lift (fun _ _ k => T_bipush (v := nI 12) d_Mo_answer_61 (by decide) k) ?_
        refine ST.lift (fun _ _ k => T_aload_n (v := .ref 373) d_Mo_answer_63 rfl (Or.inr ⟨_, rfl⟩) k) ?_
        refine S_getfield d_Mo_answer_64 fg_Mo_419 (w373 _) rfl ?_
        refine ST.lift (fun _ _ k => T_bipush (v := nI 96) d_Mo_answer_67 (by decide) k) ?_
        refine ST.lift (fun _ _ k => T_iload_n d_Mo_answer_69 rfl k) ?_
        refine S_imulN d_Mo_answer_70 ?_
        refine S_topi (y := nI 192) (by decide) ?_
        refine ST.lift (fun _ _ k => T_bipush (v := nI 64) d_Mo_answer_71 (by decide) k) ?_
        refine S_iaddN d_Mo_answer_73 ?_
        refine S_topi (y := nI 256) (by decide) ?_
        refine S_virtual (as := [.int (nI 12), .ref 433, .int (nI 256)]) (rest := []) (b := 373) d_Mo_answer_74 rfl (jw_Mo_decode.jo (by decide)) lm_Mo_502 ji_Mo_decode js_Mo_decode (w373 _) rfl rfl rfl (Nat.le_of_ble_eq_true rfl) (by decide) (by decide) (c_Mo_decode G u7 12 (by omega) 433 384 (by decide) a433 (by omega) 256 (by omega)) (fun r v' hq => ?_)
        obtain ⟨z14, hz14, hr, hv⟩ := hq
        rw [hr, hv]
        clear hr hv r v'
        show ST G mi_Mo_answer 77 [(2, .int (nI 2)), (0, .ref 373), (1, .int (nI 2))] [.int (nI z14)] u7 0 0 _
        refine S_if_neN d_Mo_answer_77 rfl (by omega) (fun c15 => ?_) (fun c15 => ?_)
        · refine ST.lift (fun _ _ k => T_aload_n (v := .ref 373) d_Mo_answer_82 rfl (Or.inr ⟨_, rfl⟩) k) ?_
          refine S_getfield d_Mo_answer_83 fg_Mo_377 (w373 _) rfl ?_
          refine ST.lift (fun _ _ k => T_iload_n d_Mo_answer_86 rfl k) ?_
          obtain ⟨k16, hk16, ek16⟩ := hv8.get (j := 90) (c := 7) (by decide)
          refine S_xload (t := 2) (k := 2) (Or.inl ⟨rfl, d_Mo_answer_87⟩) rfl (w419 _) (by decide) (by decide) ?_
          refine S_topi (y := u7 90) rfl ?_
          refine S_topi (y := nI k16) (ek16) ?_
          refine ST.lift (fun _ _ k => T_istore_n (L' := [(3, .int (nI k16)), (2, .int (nI 2)), (0, .ref 373), (1, .int (nI 2))]) d_Mo_answer_88 (by decide) rfl k) ?_
          refine ST.lift (fun _ _ k => T_iconst (v := nI 0) d_Mo_answer_89 (by decide) k) ?_
          refine ST.lift (fun _ _ k => T_istore (L' := [(4, .int (nI 0)), (3, .int (nI k16)), (2, .int (nI 2)), (0, .ref 373), (1, .int (nI 2))]) d_Mo_answer_90 (by decide) rfl k) ?_
          have lp20 : ∀ (n18 k17 : Nat), 192 - k17 = n18 → 0 ≤ k17 ∧ k17 ≤ 0 + 192 → ST G mi_Mo_answer 92 [(4, .int (nI k17)), (3, .int (nI k16)), (2, .int (nI 2)), (0, .ref 373), (1, .int (nI 2))] [] u7 0 0 Q := by
            intro n18
            induction n18 using Nat.strongRecOn with
            | _ n18 ih19 =>
              intro k17 h21 h22
              refine ST.lift (fun _ _ k => T_iload d_Mo_answer_92 rfl k) ?_
              refine ST.lift (fun _ _ k => T_sipush (v := nI 192) d_Mo_answer_94 (by decide) k) ?_
              refine S_icmp_geN d_Mo_answer_97 rfl (by omega) (by omega) (fun c23 => ?_) (fun c23 => ?_)
              · refine ST.lift (fun _ _ k => T_aload_n (v := .ref 373) d_Mo_answer_126 rfl (Or.inr ⟨_, rfl⟩) k) ?_
                refine S_getfield d_Mo_answer_127 fg_Mo_328 (w373 _) rfl ?_
                refine ST.lift (fun _ _ k => T_iload_n d_Mo_answer_130 rfl k) ?_
                refine S_zaload d_Mo_answer_131 a405 (vp_in_nI (by omega) (by omega)) (fun z25 hz25 => ?_)
                have J211_60 : ∀ (u61 : Nat → Int32) (hv_u61 : okv u61) (hm_u61 : mdf [66, 67, 70, 68, 69, 72, 75, 90, 94, 98, 102, 106, 110, 114, 118, 122, 126] v u61) (es_u61 : u61 67 = nI 0) (z59 : Int32), ST G mi_Mo_answer 211 [(4, .int z59), (3, .int (nI k16)), (2, .int (nI 2)), (0, .ref 373), (1, .int (nI 2))] [] u61 0 0 Q := by
                  intro u61 hv_u61 hm_u61 es_u61 z59
                  refine ST.lift (fun _ _ k => T_aload_n (v := .ref 373) d_Mo_answer_211 rfl (Or.inr ⟨_, rfl⟩) k) ?_
                  refine ST.lift (fun _ _ k => T_iload_n d_Mo_answer_212 rfl k) ?_
                  refine S_virtual (as := [.int (nI k16)]) (rest := []) (b := 373) d_Mo_answer_213 rfl (jw_Mo_userKey.jo (by decide)) lm_Mo_530 ji_Mo_userKey js_Mo_userKey (w373 _) rfl rfl rfl (Nat.le_of_ble_eq_true rfl) (by decide) (by decide) (c_Mo_userKey G u61 (nI k16) 0 es_u61 (by omega) hv_u61) (fun r u62 hq => ?_)
                  obtain ⟨hr, hv63, hm64, es_u62⟩ := hq
                  rw [hr]
                  clear hr r
                  have hm66 := hm_u61.go hm64 (by intro i hi; simp only [List.mem_cons, List.not_mem_nil, or_false] at hi ⊢ <;> omega)
                  show ST G mi_Mo_answer 216 [(4, .int z59), (3, .int (nI k16)), (2, .int (nI 2)), (0, .ref 373), (1, .int (nI 2))] [] u62 0 0 _
                  refine ST.lift (fun _ _ k => T_aload_n (v := .ref 373) d_Mo_answer_216 rfl (Or.inr ⟨_, rfl⟩) k) ?_
                  refine ST.lift (fun _ _ k => T_bipush (v := nI 12) d_Mo_answer_217 (by decide) k) ?_
                  refine ST.lift (fun _ _ k => T_aload_n (v := .ref 373) d_Mo_answer_219 rfl (Or.inr ⟨_, rfl⟩) k) ?_
                  refine S_getfield d_Mo_answer_220 fg_Mo_419 (w373 _) rfl ?_
                  refine ST.lift (fun _ _ k => T_bipush (v := nI 96) d_Mo_answer_223 (by decide) k) ?_
                  refine ST.lift (fun _ _ k => T_iload_n d_Mo_answer_225 rfl k) ?_
                  refine S_imulN d_Mo_answer_226 ?_
                  refine S_topi (y := nI 192) (by decide) ?_
                  refine S_virtual (as := [.int (nI 12), .ref 433, .int (nI 192)]) (rest := []) (b := 373) d_Mo_answer_227 rfl (jw_Mo_decode.jo (by decide)) lm_Mo_502 ji_Mo_decode js_Mo_decode (w373 _) rfl rfl rfl (Nat.le_of_ble_eq_true rfl) (by decide) (by decide) (c_Mo_decode G u62 12 (by omega) 433 384 (by decide) a433 (by omega) 192 (by omega)) (fun r v' hq => ?_)
                  obtain ⟨z67, hz67, hr, hv⟩ := hq
                  rw [hr, hv]
                  clear hr hv r v'
                  show ST G mi_Mo_answer 230 [(4, .int z59), (3, .int (nI k16)), (2, .int (nI 2)), (0, .ref 373), (1, .int (nI 2))] [.int (nI z67)] u62 0 0 _
                  refine ST.lift (fun _ _ k => T_pop d_Mo_answer_230 rfl k) ?_
                  refine ST.lift (fun _ _ k => T_aload_n (v := .ref 373) d_Mo_answer_231 rfl (Or.inr ⟨_, rfl⟩) k) ?_
                  refine ST.lift (fun _ _ k => T_bipush (v := nI 12) d_Mo_answer_232 (by decide) k) ?_
                  refine ST.lift (fun _ _ k => T_bipush (v := nI 12) d_Mo_answer_234 (by decide) k) ?_
                  refine S_virtual (as := [.int (nI 12), .int (nI 12)]) (rest := []) (b := 373) d_Mo_answer_236 rfl (jw_Mo_timesPoint.jo (by decide)) lm_Mo_290 ji_Mo_timesPoint js_Mo_timesPoint (w373 _) rfl rfl rfl (Nat.le_of_ble_eq_true rfl) (by decide) (by decide) (c_Mo_timesPoint G u62 12 (by omega) 12 (by omega)) (fun r v' hq => ?_)
                  rw [hq.1, hq.2]
                  clear hq r v'
                  show ST G mi_Mo_answer 239 [(4, .int z59), (3, .int (nI k16)), (2, .int (nI 2)), (0, .ref 373), (1, .int (nI 2))] [] u62 0 0 _
                  refine ST.lift (fun _ _ k => T_aload_n (v := .ref 373) d_Mo_answer_239 rfl (Or.inr ⟨_, rfl⟩) k) ?_
                  refine ST.lift (fun _ _ k => T_bipush (v := nI 12) d_Mo_answer_240 (by decide) k) ?_
                  refine S_virtual (as := [.int (nI 12)]) (rest := []) (b := 373) d_Mo_answer_242 rfl (jw_Mo_code.jo (by decide)) lm_Mo_293 ji_Mo_code js_Mo_code (w373 _) rfl rfl rfl (Nat.le_of_ble_eq_true rfl) (by decide) (by decide) (c_Mo_code G u62 12 (by omega)) (fun r v' hq => ?_)
                  rw [hq.1, hq.2]
                  clear hq r v'
                  show ST G mi_Mo_answer 245 [(4, .int z59), (3, .int (nI k16)), (2, .int (nI 2)), (0, .ref 373), (1, .int (nI 2))] [] u62 0 0 _
                  refine ST.lift (fun _ _ k => T_sipush (v := nI 320) d_Mo_answer_245 (by decide) k) ?_
                  refine ST.lift (fun _ _ k => T_iload_n d_Mo_answer_248 rfl k) ?_
                  refine S_imulN d_Mo_answer_249 ?_
                  refine S_topi (y := nI 640) (by decide) ?_
                  refine ST.lift (fun _ _ k => T_istore (L' := [(4, .int (nI 640)), (3, .int (nI k16)), (2, .int (nI 2)), (0, .ref 373), (1, .int (nI 2))]) d_Mo_answer_250 (by decide) rfl k) ?_
                  refine ST.lift (fun _ _ k => T_iconst (v := nI 0) d_Mo_answer_252 (by decide) k) ?_
                  refine ST.lift (fun _ _ k => T_istore (L' := [(5, .int (nI 0)), (4, .int (nI 640)), (3, .int (nI k16)), (2, .int (nI 2)), (0, .ref 373), (1, .int (nI 2))]) d_Mo_answer_253 (by decide) rfl k) ?_
                  have lp71 : ∀ (n69 k68 : Nat), 32 - k68 = n69 → 0 ≤ k68 ∧ k68 ≤ 0 + 32 → ST G mi_Mo_answer 255 [(5, .int (nI k68)), (4, .int (nI 640)), (3, .int (nI k16)), (2, .int (nI 2)), (0, .ref 373), (1, .int (nI 2))] [] u62 0 0 Q := by
                    intro n69
                    induction n69 using Nat.strongRecOn with
                    | _ n69 ih70 =>
                      intro k68 h72 h73
                      refine ST.lift (fun _ _ k => T_iload d_Mo_answer_255 rfl k) ?_
                      refine ST.lift (fun _ _ k => T_bipush (v := nI 32) d_Mo_answer_257 (by decide) k) ?_
                      refine S_icmp_geN d_Mo_answer_259 rfl (by omega) (by omega) (fun c74 => ?_) (fun c74 => ?_)
                      · refine ST.lift (fun _ _ k => T_aload_n (v := .ref 373) d_Mo_answer_285 rfl (Or.inr ⟨_, rfl⟩) k) ?_
                        refine S_virtual (as := []) (rest := []) (b := 373) d_Mo_answer_286 rfl (jw_Mo_chance.jo (by decide)) lm_Mo_304 ji_Mo_chance js_Mo_chance (w373 _) rfl rfl rfl (Nat.le_of_ble_eq_true rfl) (by decide) (by decide) (c_Mo_chance G u62 0 es_u62 (by omega) hv63) (fun r u76 hq => ?_)
                        obtain ⟨hr, hv77, hm78, es_u76⟩ := hq
                        rw [hr]
                        clear hr r
                        have hm80 := hm66.go hm78 (by intro i hi; simp only [List.mem_cons, List.not_mem_nil, or_false] at hi ⊢ <;> omega)
                        show ST G mi_Mo_answer 289 [(5, .int (nI k68)), (4, .int (nI 640)), (3, .int (nI k16)), (2, .int (nI 2)), (0, .ref 373), (1, .int (nI 2))] [] u76 0 0 _
                        refine ST.lift (fun _ _ k => T_iconst (v := nI 0) d_Mo_answer_289 (by decide) k) ?_
                        refine ST.lift (fun _ _ k => T_istore (L' := [(5, .int (nI 0)), (4, .int (nI 640)), (3, .int (nI k16)), (2, .int (nI 2)), (0, .ref 373), (1, .int (nI 2))]) d_Mo_answer_290 (by decide) rfl k) ?_
                        have lp84 : ∀ (n82 k81 : Nat), 32 - k81 = n82 → 0 ≤ k81 ∧ k81 ≤ 0 + 32 → ST G mi_Mo_answer 292 [(5, .int (nI k81)), (4, .int (nI 640)), (3, .int (nI k16)), (2, .int (nI 2)), (0, .ref 373), (1, .int (nI 2))] [] u76 0 0 Q := by
                          intro n82
                          induction n82 using Nat.strongRecOn with
                          | _ n82 ih83 =>
                            intro k81 h85 h86
                            refine ST.lift (fun _ _ k => T_iload d_Mo_answer_292 rfl k) ?_
                            refine ST.lift (fun _ _ k => T_bipush (v := nI 32) d_Mo_answer_294 (by decide) k) ?_
                            refine S_icmp_geN d_Mo_answer_296 rfl (by omega) (by omega) (fun c87 => ?_) (fun c87 => ?_)
                            · refine ST.lift (fun _ _ k => T_aload_n (v := .ref 373) d_Mo_answer_325 rfl (Or.inr ⟨_, rfl⟩) k) ?_
                              refine ST.lift (fun _ _ k => T_aload_n (v := .ref 373) d_Mo_answer_326 rfl (Or.inr ⟨_, rfl⟩) k) ?_
                              refine S_getfield d_Mo_answer_327 fg_Mo_335 (w373 _) rfl ?_
                              refine ST.lift (fun _ _ k => T_bipush (v := nI 32) d_Mo_answer_330 (by decide) k) ?_
                              refine ST.lift (fun _ _ k => T_aload_n (v := .ref 373) d_Mo_answer_332 rfl (Or.inr ⟨_, rfl⟩) k) ?_
                              refine S_getfield d_Mo_answer_333 fg_Mo_422 (w373 _) rfl ?_
                              refine ST.lift (fun _ _ k => T_iload d_Mo_answer_336 rfl k) ?_
                              refine ST.lift (fun _ _ k => T_bipush (v := nI 32) d_Mo_answer_338 (by decide) k) ?_
                              refine S_iaddN d_Mo_answer_340 ?_
                              refine S_topi (y := nI 672) (by decide) ?_
                              refine S_virtual (as := [.ref 407, .int (nI 32), .ref 434, .int (nI 672)]) (rest := []) (b := 373) d_Mo_answer_341 rfl (jw_Mo_padOf.jo (by decide)) lm_Mo_578 ji_Mo_padOf js_Mo_padOf (w373 _) rfl rfl rfl (Nat.le_of_ble_eq_true rfl) (by decide) (by decide) (c_Mo_padOf G u76 407 192 (by decide) a407 (by omega) 32 (by omega) 434 1280 (by decide) a434 (by omega) 672 (by omega) 0 es_u76 (by omega) hv77) (fun r u89 hq => ?_)
                              obtain ⟨hr, hv90, hm91, es_u89⟩ := hq
                              rw [hr]
                              clear hr r
                              have hm93 := hm80.go hm91 (by intro i hi; simp only [List.mem_cons, List.not_mem_nil, or_false] at hi ⊢ <;> omega)
                              show ST G mi_Mo_answer 344 [(5, .int (nI k81)), (4, .int (nI 640)), (3, .int (nI k16)), (2, .int (nI 2)), (0, .ref 373), (1, .int (nI 2))] [] u89 0 0 _
                              refine ST.lift (fun _ _ k => T_iconst (v := nI 0) d_Mo_answer_344 (by decide) k) ?_
                              refine ST.lift (fun _ _ k => T_istore (L' := [(5, .int (nI 0)), (4, .int (nI 640)), (3, .int (nI k16)), (2, .int (nI 2)), (0, .ref 373), (1, .int (nI 2))]) d_Mo_answer_345 (by decide) rfl k) ?_
                              have lp97 : ∀ (n95 k94 : Nat), 32 - k94 = n95 → 0 ≤ k94 ∧ k94 ≤ 0 + 32 → ST G mi_Mo_answer 347 [(5, .int (nI k94)), (4, .int (nI 640)), (3, .int (nI k16)), (2, .int (nI 2)), (0, .ref 373), (1, .int (nI 2))] [] u89 0 0 Q := by
                                intro n95
                                induction n95 using Nat.strongRecOn with
                                | _ n95 ih96 =>
                                  intro k94 h98 h99
                                  refine ST.lift (fun _ _ k => T_iload d_Mo_answer_347 rfl k) ?_
                                  refine ST.lift (fun _ _ k => T_bipush (v := nI 32) d_Mo_answer_349 (by decide) k) ?_
                                  refine S_icmp_geN d_Mo_answer_351 rfl (by omega) (by omega) (fun c100 => ?_) (fun c100 => ?_)
                                  · refine ST.lift (fun _ _ k => T_iconst (v := nI 0) d_Mo_answer_388 (by decide) k) ?_
                                    refine ST.lift (fun _ _ k => T_istore (L' := [(5, .int (nI 0)), (4, .int (nI 640)), (3, .int (nI k16)), (2, .int (nI 2)), (0, .ref 373), (1, .int (nI 2))]) d_Mo_answer_389 (by decide) rfl k) ?_
                                    have lp107 : ∀ (n105 k104 : Nat), 96 - k104 = n105 → 0 ≤ k104 ∧ k104 ≤ 0 + 96 → ST G mi_Mo_answer 391 [(5, .int (nI k104)), (4, .int (nI 640)), (3, .int (nI k16)), (2, .int (nI 2)), (0, .ref 373), (1, .int (nI 2))] [] u89 0 0 Q := by
                                      intro n105
                                      induction n105 using Nat.strongRecOn with
                                      | _ n105 ih106 =>
                                        intro k104 h108 h109
                                        refine ST.lift (fun _ _ k => T_iload d_Mo_answer_391 rfl k) ?_
                                        refine ST.lift (fun _ _ k => T_bipush (v := nI 96) d_Mo_answer_393 (by decide) k) ?_
                                        refine S_icmp_geN d_Mo_answer_395 rfl (by omega) (by omega) (fun c110 => ?_) (fun c110 => ?_)
                                        · refine ST.lift (fun _ _ k => T_aload_n (v := .ref 373) d_Mo_answer_438 rfl (Or.inr ⟨_, rfl⟩) k) ?_
                                          refine S_virtual (as := []) (rest := []) (b := 373) d_Mo_answer_439 rfl (jw_Mo_chance.jo (by decide)) lm_Mo_304 ji_Mo_chance js_Mo_chance (w373 _) rfl rfl rfl (Nat.le_of_ble_eq_true rfl) (by decide) (by decide) (c_Mo_chance G u89 0 es_u89 (by omega) hv90) (fun r u114 hq => ?_)
                                          obtain ⟨hr, hv115, hm116, es_u114⟩ := hq
                                          rw [hr]
                                          clear hr r
                                          have hm118 := hm93.go hm116 (by intro i hi; simp only [List.mem_cons, List.not_mem_nil, or_false] at hi ⊢ <;> omega)
                                          show ST G mi_Mo_answer 442 [(5, .int (nI k104)), (4, .int (nI 640)), (3, .int (nI k16)), (2, .int (nI 2)), (0, .ref 373), (1, .int (nI 2))] [] u114 0 0 _
                                          refine ST.lift (fun _ _ k => T_iconst (v := nI 0) d_Mo_answer_442 (by decide) k) ?_
                                          refine ST.lift (fun _ _ k => T_istore (L' := [(5, .int (nI 0)), (4, .int (nI 640)), (3, .int (nI k16)), (2, .int (nI 2)), (0, .ref 373), (1, .int (nI 2))]) d_Mo_answer_443 (by decide) rfl k) ?_
                                          have lp122 : ∀ (n120 k119 : Nat), 32 - k119 = n120 → 0 ≤ k119 ∧ k119 ≤ 0 + 32 → ST G mi_Mo_answer 445 [(5, .int (nI k119)), (4, .int (nI 640)), (3, .int (nI k16)), (2, .int (nI 2)), (0, .ref 373), (1, .int (nI 2))] [] u114 0 0 Q := by
                                            intro n120
                                            induction n120 using Nat.strongRecOn with
                                            | _ n120 ih121 =>
                                              intro k119 h123 h124
                                              refine ST.lift (fun _ _ k => T_iload d_Mo_answer_445 rfl k) ?_
                                              refine ST.lift (fun _ _ k => T_bipush (v := nI 32) d_Mo_answer_447 (by decide) k) ?_
                                              refine S_icmp_geN d_Mo_answer_449 rfl (by omega) (by omega) (fun c125 => ?_) (fun c125 => ?_)
                                              · refine ST.lift (fun _ _ k => T_aload_n (v := .ref 373) d_Mo_answer_479 rfl (Or.inr ⟨_, rfl⟩) k) ?_
                                                refine S_virtual (as := []) (rest := []) (b := 373) d_Mo_answer_480 rfl (jw_Mo_chanceScalar.jo (by decide)) lm_Mo_548 ji_Mo_chanceScalar js_Mo_chanceScalar (w373 _) rfl rfl rfl (Nat.le_of_ble_eq_true rfl) (by decide) (by decide) (c_Mo_chanceScalar G u114 0 es_u114 (by omega) hv115) (fun r u127 hq => ?_)
                                                obtain ⟨hr, hv128, hm129, es_u127⟩ := hq
                                                rw [hr]
                                                clear hr r
                                                have hm131 := hm118.go hm129 (by intro i hi; simp only [List.mem_cons, List.not_mem_nil, or_false] at hi ⊢ <;> omega)
                                                show ST G mi_Mo_answer 483 [(5, .int (nI k119)), (4, .int (nI 640)), (3, .int (nI k16)), (2, .int (nI 2)), (0, .ref 373), (1, .int (nI 2))] [] u127 0 0 _
                                                refine ST.lift (fun _ _ k => T_aload_n (v := .ref 373) d_Mo_answer_483 rfl (Or.inr ⟨_, rfl⟩) k) ?_
                                                refine ST.lift (fun _ _ k => T_aload_n (v := .ref 373) d_Mo_answer_484 rfl (Or.inr ⟨_, rfl⟩) k) ?_
                                                refine S_getfield d_Mo_answer_485 fg_Mo_470 (w373 _) rfl ?_
                                                refine ST.lift (fun _ _ k => T_iconst (v := nI 0) d_Mo_answer_488 (by decide) k) ?_
                                                refine S_virtual (as := [.ref 449, .int (nI 0)]) (rest := []) (b := 373) d_Mo_answer_489 rfl (jw_Mo_putScalar.jo (by decide)) lm_Mo_489 ji_Mo_putScalar js_Mo_putScalar (w373 _) rfl rfl rfl (Nat.le_of_ble_eq_true rfl) (by decide) (by decide) (c_Mo_putScalar G u127 449 16 (by decide) a449 (by omega) 0 (by omega)) (fun r v' hq => ?_)
                                                rw [hq.1, hq.2]
                                                clear hq r v'
                                                show ST G mi_Mo_answer 492 [(5, .int (nI k119)), (4, .int (nI 640)), (3, .int (nI k16)), (2, .int (nI 2)), (0, .ref 373), (1, .int (nI 2))] [] u127 0 0 _
                                                refine ST.lift (fun _ _ k => T_aload_n (v := .ref 373) d_Mo_answer_492 rfl (Or.inr ⟨_, rfl⟩) k) ?_
                                                refine ST.lift (fun _ _ k => T_aload_n (v := .ref 373) d_Mo_answer_493 rfl (Or.inr ⟨_, rfl⟩) k) ?_
                                                refine S_getfield d_Mo_answer_494 fg_Mo_422 (w373 _) rfl ?_
                                                refine ST.lift (fun _ _ k => T_iload d_Mo_answer_497 rfl k) ?_
                                                refine ST.lift (fun _ _ k => T_sipush (v := nI 224) d_Mo_answer_499 (by decide) k) ?_
                                                refine S_iaddN d_Mo_answer_502 ?_
                                                refine S_topi (y := nI 864) (by decide) ?_
                                                refine S_virtual (as := [.ref 434, .int (nI 864)]) (rest := []) (b := 373) d_Mo_answer_503 rfl (jw_Mo_publicTo.jo (by decide)) lm_Mo_492 ji_Mo_publicTo js_Mo_publicTo (w373 _) rfl rfl rfl (Nat.le_of_ble_eq_true rfl) (by decide) (by decide) (c_Mo_publicTo G u127 434 1280 (by decide) a434 (by omega) 864 (by omega)) (fun r v' hq => ?_)
                                                rw [hq.1, hq.2]
                                                clear hq r v'
                                                show ST G mi_Mo_answer 506 [(5, .int (nI k119)), (4, .int (nI 640)), (3, .int (nI k16)), (2, .int (nI 2)), (0, .ref 373), (1, .int (nI 2))] [] u127 0 0 _
                                                refine ST.lift (fun _ _ k => T_aload_n (v := .ref 373) d_Mo_answer_506 rfl (Or.inr ⟨_, rfl⟩) k) ?_
                                                refine ST.lift (fun _ _ k => T_bipush (v := nI 12) d_Mo_answer_507 (by decide) k) ?_
                                                refine ST.lift (fun _ _ k => T_aload_n (v := .ref 373) d_Mo_answer_509 rfl (Or.inr ⟨_, rfl⟩) k) ?_
                                                refine S_getfield d_Mo_answer_510 fg_Mo_419 (w373 _) rfl ?_
                                                refine ST.lift (fun _ _ k => T_bipush (v := nI 96) d_Mo_answer_513 (by decide) k) ?_
                                                refine ST.lift (fun _ _ k => T_iload_n d_Mo_answer_515 rfl k) ?_
                                                refine S_imulN d_Mo_answer_516 ?_
                                                refine S_topi (y := nI 192) (by decide) ?_
                                                refine ST.lift (fun _ _ k => T_bipush (v := nI 64) d_Mo_answer_517 (by decide) k) ?_
                                                refine S_iaddN d_Mo_answer_519 ?_
                                                refine S_topi (y := nI 256) (by decide) ?_
                                                refine S_virtual (as := [.int (nI 12), .ref 433, .int (nI 256)]) (rest := []) (b := 373) d_Mo_answer_520 rfl (jw_Mo_decode.jo (by decide)) lm_Mo_502 ji_Mo_decode js_Mo_decode (w373 _) rfl rfl rfl (Nat.le_of_ble_eq_true rfl) (by decide) (by decide) (c_Mo_decode G u127 12 (by omega) 433 384 (by decide) a433 (by omega) 256 (by omega)) (fun r v' hq => ?_)
                                                obtain ⟨z132, hz132, hr, hv⟩ := hq
                                                rw [hr, hv]
                                                clear hr hv r v'
                                                show ST G mi_Mo_answer 523 [(5, .int (nI k119)), (4, .int (nI 640)), (3, .int (nI k16)), (2, .int (nI 2)), (0, .ref 373), (1, .int (nI 2))] [.int (nI z132)] u127 0 0 _
                                                refine ST.lift (fun _ _ k => T_pop d_Mo_answer_523 rfl k) ?_
                                                refine ST.lift (fun _ _ k => T_aload_n (v := .ref 373) d_Mo_answer_524 rfl (Or.inr ⟨_, rfl⟩) k) ?_
                                                refine ST.lift (fun _ _ k => T_aload_n (v := .ref 373) d_Mo_answer_525 rfl (Or.inr ⟨_, rfl⟩) k) ?_
                                                refine S_getfield d_Mo_answer_526 fg_Mo_470 (w373 _) rfl ?_
                                                refine ST.lift (fun _ _ k => T_iconst (v := nI 0) d_Mo_answer_529 (by decide) k) ?_
                                                refine S_virtual (as := [.ref 449, .int (nI 0)]) (rest := []) (b := 373) d_Mo_answer_530 rfl (jw_Mo_takeScalar.jo (by decide)) lm_Mo_533 ji_Mo_takeScalar js_Mo_takeScalar (w373 _) rfl rfl rfl (Nat.le_of_ble_eq_true rfl) (by decide) (by decide) (c_Mo_takeScalar G u127 449 16 (by decide) a449 (by omega) 0 (by omega)) (fun r v' hq => ?_)
                                                rw [hq.1, hq.2]
                                                clear hq r v'
                                                show ST G mi_Mo_answer 533 [(5, .int (nI k119)), (4, .int (nI 640)), (3, .int (nI k16)), (2, .int (nI 2)), (0, .ref 373), (1, .int (nI 2))] [] u127 0 0 _
                                                refine ST.lift (fun _ _ k => T_aload_n (v := .ref 373) d_Mo_answer_533 rfl (Or.inr ⟨_, rfl⟩) k) ?_
                                                refine ST.lift (fun _ _ k => T_iconst (v := nI 0) d_Mo_answer_534 (by decide) k) ?_
                                                refine ST.lift (fun _ _ k => T_bipush (v := nI 12) d_Mo_answer_535 (by decide) k) ?_
                                                refine S_virtual (as := [.int (nI 0), .int (nI 12)]) (rest := []) (b := 373) d_Mo_answer_537 rfl (jw_Mo_share.jo (by decide)) lm_Mo_582 ji_Mo_share js_Mo_share (w373 _) rfl rfl rfl (Nat.le_of_ble_eq_true rfl) (by decide) (by decide) (c_Mo_share G u127 0 (by omega) 12 (by omega)) (fun r v' hq => ?_)
                                                rw [hq.1, hq.2]
                                                clear hq r v'
                                                show ST G mi_Mo_answer 540 [(5, .int (nI k119)), (4, .int (nI 640)), (3, .int (nI k16)), (2, .int (nI 2)), (0, .ref 373), (1, .int (nI 2))] [] u127 0 0 _
                                                refine ST.lift (fun _ _ k => T_aload_n (v := .ref 373) d_Mo_answer_540 rfl (Or.inr ⟨_, rfl⟩) k) ?_
                                                refine ST.lift (fun _ _ k => T_aload_n (v := .ref 373) d_Mo_answer_541 rfl (Or.inr ⟨_, rfl⟩) k) ?_
                                                refine S_getfield d_Mo_answer_542 fg_Mo_322 (w373 _) rfl ?_
                                                refine ST.lift (fun _ _ k => T_iconst (v := nI 0) d_Mo_answer_545 (by decide) k) ?_
                                                refine S_virtual (as := [.ref 403, .int (nI 0)]) (rest := []) (b := 373) d_Mo_answer_546 rfl (jw_Mo_takeScalar.jo (by decide)) lm_Mo_533 ji_Mo_takeScalar js_Mo_takeScalar (w373 _) rfl rfl rfl (Nat.le_of_ble_eq_true rfl) (by decide) (by decide) (c_Mo_takeScalar G u127 403 16 (by decide) a403 (by omega) 0 (by omega)) (fun r v' hq => ?_)
                                                rw [hq.1, hq.2]
                                                clear hq r v'
                                                show ST G mi_Mo_answer 549 [(5, .int (nI k119)), (4, .int (nI 640)), (3, .int (nI k16)), (2, .int (nI 2)), (0, .ref 373), (1, .int (nI 2))] [] u127 0 0 _
                                                refine ST.lift (fun _ _ k => T_aload_n (v := .ref 373) d_Mo_answer_549 rfl (Or.inr ⟨_, rfl⟩) k) ?_
                                                refine ST.lift (fun _ _ k => T_bipush (v := nI 32) d_Mo_answer_550 (by decide) k) ?_
                                                refine ST.lift (fun _ _ k => T_bipush (v := nI 12) d_Mo_answer_552 (by decide) k) ?_
                                                refine S_virtual (as := [.int (nI 32), .int (nI 12)]) (rest := []) (b := 373) d_Mo_answer_554 rfl (jw_Mo_share.jo (by decide)) lm_Mo_582 ji_Mo_share js_Mo_share (w373 _) rfl rfl rfl (Nat.le_of_ble_eq_true rfl) (by decide) (by decide) (c_Mo_share G u127 32 (by omega) 12 (by omega)) (fun r v' hq => ?_)
                                                rw [hq.1, hq.2]
                                                clear hq r v'
                                                show ST G mi_Mo_answer 557 [(5, .int (nI k119)), (4, .int (nI 640)), (3, .int (nI k16)), (2, .int (nI 2)), (0, .ref 373), (1, .int (nI 2))] [] u127 0 0 _
                                                refine ST.lift (fun _ _ k => T_aload_n (v := .ref 373) d_Mo_answer_557 rfl (Or.inr ⟨_, rfl⟩) k) ?_
                                                refine ST.lift (fun _ _ k => T_bipush (v := nI 12) d_Mo_answer_558 (by decide) k) ?_
                                                refine ST.lift (fun _ _ k => T_aload_n (v := .ref 373) d_Mo_answer_560 rfl (Or.inr ⟨_, rfl⟩) k) ?_
                                                refine S_getfield d_Mo_answer_561 fg_Mo_335 (w373 _) rfl ?_
                                                refine ST.lift (fun _ _ k => T_iconst (v := nI 0) d_Mo_answer_564 (by decide) k) ?_
                                                refine S_virtual (as := [.int (nI 12), .ref 407, .int (nI 0)]) (rest := []) (b := 373) d_Mo_answer_565 rfl (jw_Mo_decode.jo (by decide)) lm_Mo_502 ji_Mo_decode js_Mo_decode (w373 _) rfl rfl rfl (Nat.le_of_ble_eq_true rfl) (by decide) (by decide) (c_Mo_decode G u127 12 (by omega) 407 192 (by decide) a407 (by omega) 0 (by omega)) (fun r v' hq => ?_)
                                                obtain ⟨z133, hz133, hr, hv⟩ := hq
                                                rw [hr, hv]
                                                clear hr hv r v'
                                                show ST G mi_Mo_answer 568 [(5, .int (nI k119)), (4, .int (nI 640)), (3, .int (nI k16)), (2, .int (nI 2)), (0, .ref 373), (1, .int (nI 2))] [.int (nI z133)] u127 0 0 _
                                                refine ST.lift (fun _ _ k => T_pop d_Mo_answer_568 rfl k) ?_
                                                refine ST.lift (fun _ _ k => T_aload_n (v := .ref 373) d_Mo_answer_569 rfl (Or.inr ⟨_, rfl⟩) k) ?_
                                                refine ST.lift (fun _ _ k => T_aload_n (v := .ref 373) d_Mo_answer_570 rfl (Or.inr ⟨_, rfl⟩) k) ?_
                                                refine S_getfield d_Mo_answer_571 fg_Mo_470 (w373 _) rfl ?_
                                                refine ST.lift (fun _ _ k => T_iconst (v := nI 0) d_Mo_answer_574 (by decide) k) ?_
                                                refine S_virtual (as := [.ref 449, .int (nI 0)]) (rest := []) (b := 373) d_Mo_answer_575 rfl (jw_Mo_takeScalar.jo (by decide)) lm_Mo_533 ji_Mo_takeScalar js_Mo_takeScalar (w373 _) rfl rfl rfl (Nat.le_of_ble_eq_true rfl) (by decide) (by decide) (c_Mo_takeScalar G u127 449 16 (by decide) a449 (by omega) 0 (by omega)) (fun r v' hq => ?_)
                                                rw [hq.1, hq.2]
                                                clear hq r v'
                                                show ST G mi_Mo_answer 578 [(5, .int (nI k119)), (4, .int (nI 640)), (3, .int (nI k16)), (2, .int (nI 2)), (0, .ref 373), (1, .int (nI 2))] [] u127 0 0 _
                                                refine ST.lift (fun _ _ k => T_aload_n (v := .ref 373) d_Mo_answer_578 rfl (Or.inr ⟨_, rfl⟩) k) ?_
                                                refine ST.lift (fun _ _ k => T_bipush (v := nI 64) d_Mo_answer_579 (by decide) k) ?_
                                                refine ST.lift (fun _ _ k => T_bipush (v := nI 12) d_Mo_answer_581 (by decide) k) ?_
                                                refine S_virtual (as := [.int (nI 64), .int (nI 12)]) (rest := []) (b := 373) d_Mo_answer_583 rfl (jw_Mo_share.jo (by decide)) lm_Mo_582 ji_Mo_share js_Mo_share (w373 _) rfl rfl rfl (Nat.le_of_ble_eq_true rfl) (by decide) (by decide) (c_Mo_share G u127 64 (by omega) 12 (by omega)) (fun r v' hq => ?_)
                                                rw [hq.1, hq.2]
                                                clear hq r v'
                                                show ST G mi_Mo_answer 586 [(5, .int (nI k119)), (4, .int (nI 640)), (3, .int (nI k16)), (2, .int (nI 2)), (0, .ref 373), (1, .int (nI 2))] [] u127 0 0 _
                                                refine ST.lift (fun _ _ k => T_aload_n (v := .ref 373) d_Mo_answer_586 rfl (Or.inr ⟨_, rfl⟩) k) ?_
                                                refine ST.lift (fun _ _ k => T_aload_n (v := .ref 373) d_Mo_answer_587 rfl (Or.inr ⟨_, rfl⟩) k) ?_
                                                refine S_getfield d_Mo_answer_588 fg_Mo_335 (w373 _) rfl ?_
                                                refine ST.lift (fun _ _ k => T_iconst (v := nI 0) d_Mo_answer_591 (by decide) k) ?_
                                                refine ST.lift (fun _ _ k => T_aload_n (v := .ref 373) d_Mo_answer_592 rfl (Or.inr ⟨_, rfl⟩) k) ?_
                                                refine S_getfield d_Mo_answer_593 fg_Mo_419 (w373 _) rfl ?_
                                                refine ST.lift (fun _ _ k => T_bipush (v := nI 96) d_Mo_answer_596 (by decide) k) ?_
                                                refine ST.lift (fun _ _ k => T_iload_n d_Mo_answer_598 rfl k) ?_
                                                refine S_imulN d_Mo_answer_599 ?_
                                                refine S_topi (y := nI 192) (by decide) ?_
                                                refine ST.lift (fun _ _ k => T_aload_n (v := .ref 373) d_Mo_answer_600 rfl (Or.inr ⟨_, rfl⟩) k) ?_
                                                refine S_getfield d_Mo_answer_601 fg_Mo_325 (w373 _) rfl ?_
                                                refine ST.lift (fun _ _ k => T_iconst (v := nI 0) d_Mo_answer_604 (by decide) k) ?_
                                                refine ST.lift (fun _ _ k => T_aload_n (v := .ref 373) d_Mo_answer_605 rfl (Or.inr ⟨_, rfl⟩) k) ?_
                                                refine S_getfield d_Mo_answer_606 fg_Mo_422 (w373 _) rfl ?_
                                                refine ST.lift (fun _ _ k => T_iload d_Mo_answer_609 rfl k) ?_
                                                refine S_virtual (as := [.ref 407, .int (nI 0), .ref 433, .int (nI 192), .ref 404, .int (nI 0), .ref 434, .int (nI 640)]) (rest := []) (b := 373) d_Mo_answer_611 rfl (jw_Mo_preambleOf.jo (by decide)) lm_Mo_585 ji_Mo_preambleOf js_Mo_preambleOf (w373 _) rfl rfl rfl (Nat.le_of_ble_eq_true rfl) (by decide) (by decide) (c_Mo_preambleOf G u127 407 192 (by decide) a407 (by omega) 0 (by omega) 433 384 (by decide) a433 (by omega) 192 (by omega) 404 32 (by decide) a404 (by omega) 0 (by omega) 434 1280 (by decide) a434 (by omega) 640 (by omega) 0 es_u127 (by omega) hv128) (fun r u134 hq => ?_)
                                                obtain ⟨hr, hv135, hm136, es_u134⟩ := hq
                                                rw [hr]
                                                clear hr r
                                                have hm138 := hm131.go hm136 (by intro i hi; simp only [List.mem_cons, List.not_mem_nil, or_false] at hi ⊢ <;> omega)
                                                show ST G mi_Mo_answer 614 [(5, .int (nI k119)), (4, .int (nI 640)), (3, .int (nI k16)), (2, .int (nI 2)), (0, .ref 373), (1, .int (nI 2))] [] u134 0 0 _
                                                refine ST.lift (fun _ _ k => T_aload_n (v := .ref 373) d_Mo_answer_614 rfl (Or.inr ⟨_, rfl⟩) k) ?_
                                                refine S_virtual (as := []) (rest := []) (b := 373) d_Mo_answer_615 rfl (jw_Mo_derive.jo (by decide)) lm_Mo_589 ji_Mo_derive js_Mo_derive (w373 _) rfl rfl rfl (Nat.le_of_ble_eq_true rfl) (by decide) (by decide) (c_Mo_derive G u134 0 es_u134 (by omega) hv135) (fun r u139 hq => ?_)
                                                obtain ⟨hr, hv140, hm141, es_u139⟩ := hq
                                                rw [hr]
                                                clear hr r
                                                have hm143 := hm138.go hm141 (by intro i hi; simp only [List.mem_cons, List.not_mem_nil, or_false] at hi ⊢ <;> omega)
                                                show ST G mi_Mo_answer 618 [(5, .int (nI k119)), (4, .int (nI 640)), (3, .int (nI k16)), (2, .int (nI 2)), (0, .ref 373), (1, .int (nI 2))] [] u139 0 0 _
                                                refine ST.lift (fun _ _ k => T_iconst (v := nI 0) d_Mo_answer_618 (by decide) k) ?_
                                                refine ST.lift (fun _ _ k => T_istore (L' := [(5, .int (nI 0)), (4, .int (nI 640)), (3, .int (nI k16)), (2, .int (nI 2)), (0, .ref 373), (1, .int (nI 2))]) d_Mo_answer_619 (by decide) rfl k) ?_
                                                have lp147 : ∀ (n145 k144 : Nat), 64 - k144 = n145 → 0 ≤ k144 ∧ k144 ≤ 0 + 64 → ST G mi_Mo_answer 621 [(5, .int (nI k144)), (4, .int (nI 640)), (3, .int (nI k16)), (2, .int (nI 2)), (0, .ref 373), (1, .int (nI 2))] [] u139 0 0 Q := by
                                                  intro n145
                                                  induction n145 using Nat.strongRecOn with
                                                  | _ n145 ih146 =>
                                                    intro k144 h148 h149
                                                    refine ST.lift (fun _ _ k => T_iload d_Mo_answer_621 rfl k) ?_
                                                    refine ST.lift (fun _ _ k => T_bipush (v := nI 64) d_Mo_answer_623 (by decide) k) ?_
                                                    refine S_icmp_geN d_Mo_answer_625 rfl (by omega) (by omega) (fun c150 => ?_) (fun c150 => ?_)
                                                    · refine ST.lift (fun _ _ k => T_aload_n (v := .ref 373) d_Mo_answer_693 rfl (Or.inr ⟨_, rfl⟩) k) ?_
                                                      refine S_getfield d_Mo_answer_694 fg_Mo_395 (w373 _) rfl ?_
                                                      refine ST.lift (fun _ _ k => T_iload_n d_Mo_answer_697 rfl k) ?_
                                                      refine ST.lift (fun _ _ k => T_iconst (v := nI 1) d_Mo_answer_698 (by decide) k) ?_
                                                      refine S_xstore (k := 2) (y := (nI 1)) (v' := va_up u139 102 (nI 1)) (Or.inr ⟨rfl, by decide, d_Mo_answer_699⟩) (by decide) rfl (w425 _) (by decide) (by decide) (x425_2 _ _) ?_
                                                      have hv155 := hv140.off (j := 102) (x := (nI 1)) (by decide)
                                                      have hm156 := hm143.go (mdf.up (v := u139) (j := 102) (x := (nI 1))) (by intro i hi; simp only [List.mem_cons, List.not_mem_nil, or_false] at hi ⊢ <;> omega)
                                                      have e_u154 : (va_up u139 102 (nI 1)) 102 = (nI 1) := by simp [va_up]
                                                      have e157 : (va_up u139 102 (nI 1)) 67 = nI 0 := by simp only [va_up]; exact es_u139
                                                      generalize va_up u139 102 (nI 1) = u154 at hv155 hm156 e_u154 e157 ⊢
                                                      refine ST.lift (fun _ _ k => T_iconst (v := nI 0) d_Mo_answer_700 (by decide) k) ?_
                                                      exact S_ret d_Mo_answer_701 rfl rfl (by decide) (by decide) (hQ _ _ hv155 hm156 (e157.trans (congrArg nI (by omega))))
                                                    · refine ST.lift (fun _ _ k => T_aload_n (v := .ref 373) d_Mo_answer_628 rfl (Or.inr ⟨_, rfl⟩) k) ?_
                                                      refine S_getfield d_Mo_answer_629 fg_Mo_422 (w373 _) rfl ?_
                                                      refine ST.lift (fun _ _ k => T_iload d_Mo_answer_632 rfl k) ?_
                                                      refine ST.lift (fun _ _ k => T_sipush (v := nI 256) d_Mo_answer_634 (by decide) k) ?_
                                                      refine S_iaddN d_Mo_answer_637 ?_
                                                      refine S_topi (y := nI 896) (by decide) ?_
                                                      refine ST.lift (fun _ _ k => T_iload d_Mo_answer_638 rfl k) ?_
                                                      refine S_iaddN d_Mo_answer_640 ?_
                                                      refine ST.lift (fun _ _ k => T_aload_n (v := .ref 373) d_Mo_answer_641 rfl (Or.inr ⟨_, rfl⟩) k) ?_
                                                      refine S_getfield d_Mo_answer_642 fg_Mo_458 (w373 _) rfl ?_
                                                      refine ST.lift (fun _ _ k => T_iload d_Mo_answer_645 rfl k) ?_
                                                      refine S_iaload d_Mo_answer_647 a445 (vp_in_nI (by omega) (by omega)) (fun z158 => ?_)
                                                      refine S_iastore d_Mo_answer_648 (by decide) a434 (vp_in_nI (by omega) (by omega)) ?_
                                                      refine ST.lift (fun _ _ k => T_aload_n (v := .ref 373) d_Mo_answer_649 rfl (Or.inr ⟨_, rfl⟩) k) ?_
                                                      refine S_getfield d_Mo_answer_650 fg_Mo_428 (w373 _) rfl ?_
                                                      refine ST.lift (fun _ _ k => T_bipush (v := nI 64) d_Mo_answer_653 (by decide) k) ?_
                                                      refine ST.lift (fun _ _ k => T_iload_n d_Mo_answer_655 rfl k) ?_
                                                      refine S_imulN d_Mo_answer_656 ?_
                                                      refine S_topi (y := nI 128) (by decide) ?_
                                                      refine ST.lift (fun _ _ k => T_iload d_Mo_answer_657 rfl k) ?_
                                                      refine S_iaddN d_Mo_answer_659 ?_
                                                      refine ST.lift (fun _ _ k => T_aload_n (v := .ref 373) d_Mo_answer_660 rfl (Or.inr ⟨_, rfl⟩) k) ?_
                                                      refine S_getfield d_Mo_answer_661 fg_Mo_461 (w373 _) rfl ?_
                                                      refine ST.lift (fun _ _ k => T_iload d_Mo_answer_664 rfl k) ?_
                                                      refine S_iaload d_Mo_answer_666 a446 (vp_in_nI (by omega) (by omega)) (fun z159 => ?_)
                                                      refine S_iastore d_Mo_answer_667 (by decide) a436 (vp_in_nI (by omega) (by omega)) ?_
                                                      refine ST.lift (fun _ _ k => T_aload_n (v := .ref 373) d_Mo_answer_668 rfl (Or.inr ⟨_, rfl⟩) k) ?_
                                                      refine S_getfield d_Mo_answer_669 fg_Mo_434 (w373 _) rfl ?_
                                                      refine ST.lift (fun _ _ k => T_bipush (v := nI 64) d_Mo_answer_672 (by decide) k) ?_
                                                      refine ST.lift (fun _ _ k => T_iload_n d_Mo_answer_674 rfl k) ?_
                                                      refine S_imulN d_Mo_answer_675 ?_
                                                      refine S_topi (y := nI 128) (by decide) ?_
                                                      refine ST.lift (fun _ _ k => T_iload d_Mo_answer_676 rfl k) ?_
                                                      refine S_iaddN d_Mo_answer_678 ?_
                                                      refine ST.lift (fun _ _ k => T_aload_n (v := .ref 373) d_Mo_answer_679 rfl (Or.inr ⟨_, rfl⟩) k) ?_
                                                      refine S_getfield d_Mo_answer_680 fg_Mo_464 (w373 _) rfl ?_
                                                      refine ST.lift (fun _ _ k => T_iload d_Mo_answer_683 rfl k) ?_
                                                      refine S_iaload d_Mo_answer_685 a447 (vp_in_nI (by omega) (by omega)) (fun z160 => ?_)
                                                      refine S_iastore d_Mo_answer_686 (by decide) a438 (vp_in_nI (by omega) (by omega)) ?_
                                                      refine S_iincN (a := k144) (b := 1) (L' := [(5, .int (nI (k144 + 1))), (4, .int (nI 640)), (3, .int (nI k16)), (2, .int (nI 2)), (0, .ref 373), (1, .int (nI 2))]) d_Mo_answer_687 (by decide) rfl rfl rfl ?_
                                                      refine ST.lift (fun _ _ k => T_goto (tgt := 621) d_Mo_answer_690 rfl k) ?_
                                                      exact ih146 (64 - (k144 + 1)) (by omega) (k144 + 1)  rfl (by omega)
                                                exact lp147 _ 0  rfl (by omega)
                                              · refine ST.lift (fun _ _ k => T_aload_n (v := .ref 373) d_Mo_answer_452 rfl (Or.inr ⟨_, rfl⟩) k) ?_
                                                refine S_getfield d_Mo_answer_453 fg_Mo_422 (w373 _) rfl ?_
                                                refine ST.lift (fun _ _ k => T_iload d_Mo_answer_456 rfl k) ?_
                                                refine ST.lift (fun _ _ k => T_sipush (v := nI 192) d_Mo_answer_458 (by decide) k) ?_
                                                refine S_iaddN d_Mo_answer_461 ?_
                                                refine S_topi (y := nI 832) (by decide) ?_
                                                refine ST.lift (fun _ _ k => T_iload d_Mo_answer_462 rfl k) ?_
                                                refine S_iaddN d_Mo_answer_464 ?_
                                                refine ST.lift (fun _ _ k => T_aload_n (v := .ref 373) d_Mo_answer_465 rfl (Or.inr ⟨_, rfl⟩) k) ?_
                                                refine S_getfield d_Mo_answer_466 fg_Mo_55 (w373 _) rfl ?_
                                                refine ST.lift (fun _ _ k => T_iload d_Mo_answer_469 rfl k) ?_
                                                refine S_iaload d_Mo_answer_471 a383 (vp_in_nI (by omega) (by omega)) (fun z161 => ?_)
                                                refine S_iastore d_Mo_answer_472 (by decide) a434 (vp_in_nI (by omega) (by omega)) ?_
                                                refine S_iincN (a := k119) (b := 1) (L' := [(5, .int (nI (k119 + 1))), (4, .int (nI 640)), (3, .int (nI k16)), (2, .int (nI 2)), (0, .ref 373), (1, .int (nI 2))]) d_Mo_answer_473 (by decide) rfl rfl rfl ?_
                                                refine ST.lift (fun _ _ k => T_goto (tgt := 445) d_Mo_answer_476 rfl k) ?_
                                                exact ih121 (32 - (k119 + 1)) (by omega) (k119 + 1)  rfl (by omega)
                                          exact lp122 _ 0  rfl (by omega)
                                        · refine ST.lift (fun _ _ k => T_aload_n (v := .ref 373) d_Mo_answer_398 rfl (Or.inr ⟨_, rfl⟩) k) ?_
                                          refine S_getfield d_Mo_answer_399 fg_Mo_422 (w373 _) rfl ?_
                                          refine ST.lift (fun _ _ k => T_iload d_Mo_answer_402 rfl k) ?_
                                          refine ST.lift (fun _ _ k => T_bipush (v := nI 96) d_Mo_answer_404 (by decide) k) ?_
                                          refine S_iaddN d_Mo_answer_406 ?_
                                          refine S_topi (y := nI 736) (by decide) ?_
                                          refine ST.lift (fun _ _ k => T_iload d_Mo_answer_407 rfl k) ?_
                                          refine S_iaddN d_Mo_answer_409 ?_
                                          refine ST.lift (fun _ _ k => T_aload_n (v := .ref 373) d_Mo_answer_410 rfl (Or.inr ⟨_, rfl⟩) k) ?_
                                          refine S_getfield d_Mo_answer_411 fg_Mo_335 (w373 _) rfl ?_
                                          refine ST.lift (fun _ _ k => T_bipush (v := nI 96) d_Mo_answer_414 (by decide) k) ?_
                                          refine ST.lift (fun _ _ k => T_iload d_Mo_answer_416 rfl k) ?_
                                          refine S_iaddN d_Mo_answer_418 ?_
                                          refine S_iaload d_Mo_answer_419 a407 (vp_in_nI (by omega) (by omega)) (fun z162 => ?_)
                                          refine ST.lift (fun _ _ k => T_aload_n (v := .ref 373) d_Mo_answer_420 rfl (Or.inr ⟨_, rfl⟩) k) ?_
                                          refine S_getfield d_Mo_answer_421 fg_Mo_467 (w373 _) rfl ?_
                                          refine ST.lift (fun _ _ k => T_bipush (v := nI 32) d_Mo_answer_424 (by decide) k) ?_
                                          refine ST.lift (fun _ _ k => T_iload d_Mo_answer_426 rfl k) ?_
                                          refine S_iaddN d_Mo_answer_428 ?_
                                          refine S_iaload d_Mo_answer_429 a448 (vp_in_nI (by omega) (by omega)) (fun z163 => ?_)
                                          refine ST.lift (fun _ _ k => T_ixor d_Mo_answer_430 k) (S_anyi fun z164 => ?_)
                                          refine S_iastore d_Mo_answer_431 (by decide) a434 (vp_in_nI (by omega) (by omega)) ?_
                                          refine S_iincN (a := k104) (b := 1) (L' := [(5, .int (nI (k104 + 1))), (4, .int (nI 640)), (3, .int (nI k16)), (2, .int (nI 2)), (0, .ref 373), (1, .int (nI 2))]) d_Mo_answer_432 (by decide) rfl rfl rfl ?_
                                          refine ST.lift (fun _ _ k => T_goto (tgt := 391) d_Mo_answer_435 rfl k) ?_
                                          exact ih106 (96 - (k104 + 1)) (by omega) (k104 + 1)  rfl (by omega)
                                    exact lp107 _ 0  rfl (by omega)
                                  · refine ST.lift (fun _ _ k => T_aload_n (v := .ref 373) d_Mo_answer_354 rfl (Or.inr ⟨_, rfl⟩) k) ?_
                                    refine S_getfield d_Mo_answer_355 fg_Mo_422 (w373 _) rfl ?_
                                    refine ST.lift (fun _ _ k => T_iload d_Mo_answer_358 rfl k) ?_
                                    refine ST.lift (fun _ _ k => T_bipush (v := nI 64) d_Mo_answer_360 (by decide) k) ?_
                                    refine S_iaddN d_Mo_answer_362 ?_
                                    refine S_topi (y := nI 704) (by decide) ?_
                                    refine ST.lift (fun _ _ k => T_iload d_Mo_answer_363 rfl k) ?_
                                    refine S_iaddN d_Mo_answer_365 ?_
                                    refine ST.lift (fun _ _ k => T_aload_n (v := .ref 373) d_Mo_answer_366 rfl (Or.inr ⟨_, rfl⟩) k) ?_
                                    refine S_getfield d_Mo_answer_367 fg_Mo_325 (w373 _) rfl ?_
                                    refine ST.lift (fun _ _ k => T_iload d_Mo_answer_370 rfl k) ?_
                                    refine S_iaload d_Mo_answer_372 a404 (vp_in_nI (by omega) (by omega)) (fun z165 => ?_)
                                    refine ST.lift (fun _ _ k => T_aload_n (v := .ref 373) d_Mo_answer_373 rfl (Or.inr ⟨_, rfl⟩) k) ?_
                                    refine S_getfield d_Mo_answer_374 fg_Mo_467 (w373 _) rfl ?_
                                    refine ST.lift (fun _ _ k => T_iload d_Mo_answer_377 rfl k) ?_
                                    refine S_iaload d_Mo_answer_379 a448 (vp_in_nI (by omega) (by omega)) (fun z166 => ?_)
                                    refine ST.lift (fun _ _ k => T_ixor d_Mo_answer_380 k) (S_anyi fun z167 => ?_)
                                    refine S_iastore d_Mo_answer_381 (by decide) a434 (vp_in_nI (by omega) (by omega)) ?_
                                    refine S_iincN (a := k94) (b := 1) (L' := [(5, .int (nI (k94 + 1))), (4, .int (nI 640)), (3, .int (nI k16)), (2, .int (nI 2)), (0, .ref 373), (1, .int (nI 2))]) d_Mo_answer_382 (by decide) rfl rfl rfl ?_
                                    refine ST.lift (fun _ _ k => T_goto (tgt := 347) d_Mo_answer_385 rfl k) ?_
                                    exact ih96 (32 - (k94 + 1)) (by omega) (k94 + 1)  rfl (by omega)
                              exact lp97 _ 0  rfl (by omega)
                            · refine ST.lift (fun _ _ k => T_aload_n (v := .ref 373) d_Mo_answer_299 rfl (Or.inr ⟨_, rfl⟩) k) ?_
                              refine S_getfield d_Mo_answer_300 fg_Mo_422 (w373 _) rfl ?_
                              refine ST.lift (fun _ _ k => T_iload d_Mo_answer_303 rfl k) ?_
                              refine ST.lift (fun _ _ k => T_bipush (v := nI 32) d_Mo_answer_305 (by decide) k) ?_
                              refine S_iaddN d_Mo_answer_307 ?_
                              refine S_topi (y := nI 672) (by decide) ?_
                              refine ST.lift (fun _ _ k => T_iload d_Mo_answer_308 rfl k) ?_
                              refine S_iaddN d_Mo_answer_310 ?_
                              refine ST.lift (fun _ _ k => T_aload_n (v := .ref 373) d_Mo_answer_311 rfl (Or.inr ⟨_, rfl⟩) k) ?_
                              refine S_getfield d_Mo_answer_312 fg_Mo_55 (w373 _) rfl ?_
                              refine ST.lift (fun _ _ k => T_iload d_Mo_answer_315 rfl k) ?_
                              refine S_iaload d_Mo_answer_317 a383 (vp_in_nI (by omega) (by omega)) (fun z168 => ?_)
                              refine S_iastore d_Mo_answer_318 (by decide) a434 (vp_in_nI (by omega) (by omega)) ?_
                              refine S_iincN (a := k81) (b := 1) (L' := [(5, .int (nI (k81 + 1))), (4, .int (nI 640)), (3, .int (nI k16)), (2, .int (nI 2)), (0, .ref 373), (1, .int (nI 2))]) d_Mo_answer_319 (by decide) rfl rfl rfl ?_
                              refine ST.lift (fun _ _ k => T_goto (tgt := 292) d_Mo_answer_322 rfl k) ?_
                              exact ih83 (32 - (k81 + 1)) (by omega) (k81 + 1)  rfl (by omega)
                        exact lp84 _ 0  rfl (by omega)
                      · refine ST.lift (fun _ _ k => T_aload_n (v := .ref 373) d_Mo_answer_262 rfl (Or.inr ⟨_, rfl⟩) k) ?_
                        refine S_getfield d_Mo_answer_263 fg_Mo_422 (w373 _) rfl ?_
                        refine ST.lift (fun _ _ k => T_iload d_Mo_answer_266 rfl k) ?_
                        refine ST.lift (fun _ _ k => T_iload d_Mo_answer_268 rfl k) ?_
                        refine S_iaddN d_Mo_answer_270 ?_
                        refine ST.lift (fun _ _ k => T_aload_n (v := .ref 373) d_Mo_answer_271 rfl (Or.inr ⟨_, rfl⟩) k) ?_
                        refine S_getfield d_Mo_answer_272 fg_Mo_146 (w373 _) rfl ?_
                        refine ST.lift (fun _ _ k => T_iload d_Mo_answer_275 rfl k) ?_
                        refine S_iaload d_Mo_answer_277 a394 (vp_in_nI (by omega) (by omega)) (fun z169 => ?_)
                        refine S_iastore d_Mo_answer_278 (by decide) a434 (vp_in_nI (by omega) (by omega)) ?_
                        refine S_iincN (a := k68) (b := 1) (L' := [(5, .int (nI (k68 + 1))), (4, .int (nI 640)), (3, .int (nI k16)), (2, .int (nI 2)), (0, .ref 373), (1, .int (nI 2))]) d_Mo_answer_279 (by decide) rfl rfl rfl ?_
                        refine ST.lift (fun _ _ k => T_goto (tgt := 255) d_Mo_answer_282 rfl k) ?_
                        exact ih70 (32 - (k68 + 1)) (by omega) (k68 + 1)  rfl (by omega)
                  exact lp71 _ 0  rfl (by omega)
                refine S_if_ne d_Mo_answer_132 rfl (fun c26 => ?_) (fun c26 => ?_)
                · exact J211_60 u7 hv8 hm9 e10 (nI k17)
                · refine ST.lift (fun _ _ k => T_aload_n (v := .ref 373) d_Mo_answer_135 rfl (Or.inr ⟨_, rfl⟩) k) ?_
                  refine S_virtual (as := []) (rest := []) (b := 373) d_Mo_answer_136 rfl (jw_Mo_chance.jo (by decide)) lm_Mo_304 ji_Mo_chance js_Mo_chance (w373 _) rfl rfl rfl (Nat.le_of_ble_eq_true rfl) (by decide) (by decide) (c_Mo_chance G u7 0 e10 (by omega) hv8) (fun r u170 hq => ?_)
                  obtain ⟨hr, hv171, hm172, es_u170⟩ := hq
                  rw [hr]
                  clear hr r
                  have hm174 := hm9.go hm172 (by intro i hi; simp only [List.mem_cons, List.not_mem_nil, or_false] at hi ⊢ <;> omega)
                  have e175 : u170 66 = nI 0 := (hm172 66 (by decide)).trans e11
                  have e176 : u170 110 = nI 1 := (hm172 110 (by decide)).trans e_u7
                  have e177 : u170 90 = nI k16 := (hm172 90 (by decide)).trans ek16
                  show ST G mi_Mo_answer 139 [(4, .int (nI k17)), (3, .int (nI k16)), (2, .int (nI 2)), (0, .ref 373), (1, .int (nI 2))] [] u170 0 0 _
                  refine ST.lift (fun _ _ k => T_iconst (v := nI 0) d_Mo_answer_139 (by decide) k) ?_
                  refine ST.lift (fun _ _ k => T_istore (L' := [(4, .int (nI 0)), (3, .int (nI k16)), (2, .int (nI 2)), (0, .ref 373), (1, .int (nI 2))]) d_Mo_answer_140 (by decide) rfl k) ?_
                  have lp181 : ∀ (n179 k178 : Nat), 64 - k178 = n179 → 0 ≤ k178 ∧ k178 ≤ 0 + 64 → ST G mi_Mo_answer 142 [(4, .int (nI k178)), (3, .int (nI k16)), (2, .int (nI 2)), (0, .ref 373), (1, .int (nI 2))] [] u170 0 0 Q := by
                    intro n179
                    induction n179 using Nat.strongRecOn with
                    | _ n179 ih180 =>
                      intro k178 h182 h183
                      refine ST.lift (fun _ _ k => T_iload d_Mo_answer_142 rfl k) ?_
                      refine ST.lift (fun _ _ k => T_bipush (v := nI 64) d_Mo_answer_144 (by decide) k) ?_
                      refine S_icmp_geN d_Mo_answer_146 rfl (by omega) (by omega) (fun c184 => ?_) (fun c184 => ?_)
                      · refine ST.lift (fun _ _ k => T_aload_n (v := .ref 373) d_Mo_answer_172 rfl (Or.inr ⟨_, rfl⟩) k) ?_
                        refine S_virtual (as := []) (rest := []) (b := 373) d_Mo_answer_173 rfl (jw_Mo_chanceScalar.jo (by decide)) lm_Mo_548 ji_Mo_chanceScalar js_Mo_chanceScalar (w373 _) rfl rfl rfl (Nat.le_of_ble_eq_true rfl) (by decide) (by decide) (c_Mo_chanceScalar G u170 0 es_u170 (by omega) hv171) (fun r u186 hq => ?_)
                        obtain ⟨hr, hv187, hm188, es_u186⟩ := hq
                        rw [hr]
                        clear hr r
                        have hm190 := hm174.go hm188 (by intro i hi; simp only [List.mem_cons, List.not_mem_nil, or_false] at hi ⊢ <;> omega)
                        have e191 : u186 66 = nI 0 := (hm188 66 (by decide)).trans e175
                        have e192 : u186 110 = nI 1 := (hm188 110 (by decide)).trans e176
                        have e193 : u186 90 = nI k16 := (hm188 90 (by decide)).trans e177
                        show ST G mi_Mo_answer 176 [(4, .int (nI k178)), (3, .int (nI k16)), (2, .int (nI 2)), (0, .ref 373), (1, .int (nI 2))] [] u186 0 0 _
                        refine ST.lift (fun _ _ k => T_aload_n (v := .ref 373) d_Mo_answer_176 rfl (Or.inr ⟨_, rfl⟩) k) ?_
                        refine ST.lift (fun _ _ k => T_aload_n (v := .ref 373) d_Mo_answer_177 rfl (Or.inr ⟨_, rfl⟩) k) ?_
                        refine S_getfield d_Mo_answer_178 fg_Mo_335 (w373 _) rfl ?_
                        refine ST.lift (fun _ _ k => T_iconst (v := nI 0) d_Mo_answer_181 (by decide) k) ?_
                        refine S_virtual (as := [.ref 407, .int (nI 0)]) (rest := []) (b := 373) d_Mo_answer_182 rfl (jw_Mo_publicTo.jo (by decide)) lm_Mo_492 ji_Mo_publicTo js_Mo_publicTo (w373 _) rfl rfl rfl (Nat.le_of_ble_eq_true rfl) (by decide) (by decide) (c_Mo_publicTo G u186 407 192 (by decide) a407 (by omega) 0 (by omega)) (fun r v' hq => ?_)
                        rw [hq.1, hq.2]
                        clear hq r v'
                        show ST G mi_Mo_answer 185 [(4, .int (nI k178)), (3, .int (nI k16)), (2, .int (nI 2)), (0, .ref 373), (1, .int (nI 2))] [] u186 0 0 _
                        refine ST.lift (fun _ _ k => T_bipush (v := nI 96) d_Mo_answer_185 (by decide) k) ?_
                        refine ST.lift (fun _ _ k => T_istore (L' := [(4, .int (nI 96)), (3, .int (nI k16)), (2, .int (nI 2)), (0, .ref 373), (1, .int (nI 2))]) d_Mo_answer_187 (by decide) rfl k) ?_
                        have lp197 : ∀ (n195 k194 : Nat), 192 - k194 = n195 → 96 ≤ k194 ∧ k194 ≤ 96 + 192 → ST G mi_Mo_answer 189 [(4, .int (nI k194)), (3, .int (nI k16)), (2, .int (nI 2)), (0, .ref 373), (1, .int (nI 2))] [] u186 0 0 Q := by
                          intro n195
                          induction n195 using Nat.strongRecOn with
                          | _ n195 ih196 =>
                            intro k194 h198 h199
                            refine ST.lift (fun _ _ k => T_iload d_Mo_answer_189 rfl k) ?_
                            refine ST.lift (fun _ _ k => T_sipush (v := nI 192) d_Mo_answer_191 (by decide) k) ?_
                            refine S_icmp_geN d_Mo_answer_194 rfl (by omega) (by omega) (fun c200 => ?_) (fun c200 => ?_)
                            · exact J211_60 u186 hv187 hm190 es_u186 (nI k194)
                            · refine ST.lift (fun _ _ k => T_aload_n (v := .ref 373) d_Mo_answer_197 rfl (Or.inr ⟨_, rfl⟩) k) ?_
                              refine S_getfield d_Mo_answer_198 fg_Mo_335 (w373 _) rfl ?_
                              refine ST.lift (fun _ _ k => T_iload d_Mo_answer_201 rfl k) ?_
                              refine ST.lift (fun _ _ k => T_iconst (v := nI 0) d_Mo_answer_203 (by decide) k) ?_
                              refine S_iastore d_Mo_answer_204 (by decide) a407 (vp_in_nI (by omega) (by omega)) ?_
                              refine S_iincN (a := k194) (b := 1) (L' := [(4, .int (nI (k194 + 1))), (3, .int (nI k16)), (2, .int (nI 2)), (0, .ref 373), (1, .int (nI 2))]) d_Mo_answer_205 (by decide) rfl rfl rfl ?_
                              refine ST.lift (fun _ _ k => T_goto (tgt := 189) d_Mo_answer_208 rfl k) ?_
                              exact ih196 (192 - (k194 + 1)) (by omega) (k194 + 1)  rfl (by omega)
                        exact lp197 _ 96  rfl (by omega)
                      · refine ST.lift (fun _ _ k => T_aload_n (v := .ref 373) d_Mo_answer_149 rfl (Or.inr ⟨_, rfl⟩) k) ?_
                        refine S_getfield d_Mo_answer_150 fg_Mo_335 (w373 _) rfl ?_
                        refine ST.lift (fun _ _ k => T_bipush (v := nI 32) d_Mo_answer_153 (by decide) k) ?_
                        refine ST.lift (fun _ _ k => T_iload d_Mo_answer_155 rfl k) ?_
                        refine S_iaddN d_Mo_answer_157 ?_
                        refine ST.lift (fun _ _ k => T_aload_n (v := .ref 373) d_Mo_answer_158 rfl (Or.inr ⟨_, rfl⟩) k) ?_
                        refine S_getfield d_Mo_answer_159 fg_Mo_55 (w373 _) rfl ?_
                        refine ST.lift (fun _ _ k => T_iload d_Mo_answer_162 rfl k) ?_
                        refine S_iaload d_Mo_answer_164 a383 (vp_in_nI (by omega) (by omega)) (fun z201 => ?_)
                        refine S_iastore d_Mo_answer_165 (by decide) a407 (vp_in_nI (by omega) (by omega)) ?_
                        refine S_iincN (a := k178) (b := 1) (L' := [(4, .int (nI (k178 + 1))), (3, .int (nI k16)), (2, .int (nI 2)), (0, .ref 373), (1, .int (nI 2))]) d_Mo_answer_166 (by decide) rfl rfl rfl ?_
                        refine ST.lift (fun _ _ k => T_goto (tgt := 142) d_Mo_answer_169 rfl k) ?_
                        exact ih180 (64 - (k178 + 1)) (by omega) (k178 + 1)  rfl (by omega)
                  exact lp181 _ 0  rfl (by omega)
              · refine ST.lift (fun _ _ k => T_aload_n (v := .ref 373) d_Mo_answer_100 rfl (Or.inr ⟨_, rfl⟩) k) ?_
                refine S_getfield d_Mo_answer_101 fg_Mo_335 (w373 _) rfl ?_
                refine ST.lift (fun _ _ k => T_iload d_Mo_answer_104 rfl k) ?_
                refine ST.lift (fun _ _ k => T_aload_n (v := .ref 373) d_Mo_answer_106 rfl (Or.inr ⟨_, rfl⟩) k) ?_
                refine S_getfield d_Mo_answer_107 fg_Mo_332 (w373 _) rfl ?_
                refine ST.lift (fun _ _ k => T_sipush (v := nI 192) d_Mo_answer_110 (by decide) k) ?_
                refine ST.lift (fun _ _ k => T_iload_n d_Mo_answer_113 rfl k) ?_
                refine S_imulN d_Mo_answer_114 ?_
                refine ST.lift (fun _ _ k => T_iload d_Mo_answer_115 rfl k) ?_
                refine S_iaddN d_Mo_answer_117 ?_
                refine S_iaload d_Mo_answer_118 a406 (vp_in_nI (by omega) (by omega)) (fun z202 => ?_)
                refine S_iastore d_Mo_answer_119 (by decide) a407 (vp_in_nI (by omega) (by omega)) ?_
                refine S_iincN (a := k17) (b := 1) (L' := [(4, .int (nI (k17 + 1))), (3, .int (nI k16)), (2, .int (nI 2)), (0, .ref 373), (1, .int (nI 2))]) d_Mo_answer_120 (by decide) rfl rfl rfl ?_
                refine ST.lift (fun _ _ k => T_goto (tgt := 92) d_Mo_answer_123 rfl k) ?_
                exact ih19 (192 - (k17 + 1)) (by omega) (k17 + 1)  rfl (by omega)
          exact lp20 _ 0  rfl (by omega)
        · refine ST.lift (fun _ _ k => T_iconst (v := nI 1) d_Mo_answer_80 (by decide) k) ?_
          exact S_ret d_Mo_answer_81 rfl rfl (by decide) (by decide) (hQ _ _ hv8 hm9 (e10.trans (congrArg nI (by omega))))
    · refine ST.lift (fun _ _ k => T_iconst (v := nI 2) d_Mo_answer_32 (by decide) k) ?_
      exact S_ret d_Mo_answer_33 rfl rfl (by decide) (by decide) (hQ _ _ hv2 hm3 (e4.trans (congrArg nI (by omega))))
set_option maxRecDepth 100000 in
set_option maxHeartbeats 4000000 in
theorem c_Mo_finish_2 (G : GX) (v : Nat → Int32) (e67 : v 67 = nI 0) (hv : okv v) : CS G mi_Mo_finish [.ref 373, .int (nI 2)] v (fun r v' => ∃ z : Int32, r = some (.int z) ∧ okv v' ∧ mdf [66, 67, 70, 68, 69, 72, 75, 90, 94, 98, 102, 106, 110, 114, 118, 122, 126] v v' ∧ v' 67 = nI 0) := by
  refine CS.of (by decide) (Nat.le_of_ble_eq_true rfl) ?_
  generalize hQe : (fun (r : Option Value) (v' : Nat → Int32) => ∃ z : Int32, r = some (.int z) ∧ okv v' ∧ mdf [66, 67, 70, 68, 69, 72, 75, 90, 94, 98, 102, 106, 110, 114, 118, 122, 126] v v' ∧ v' 67 = nI 0) = Q
  have hQ : ∀ (z : Int32) (u : Nat → Int32), okv u → mdf [66, 67, 70, 68, 69, 72, 75, 90, 94, 98, 102, 106, 110, 114, 118, 122, 126] v u → u 67 = nI 0 → Q (some (.int z)) u := by rw [← hQe]; exact fun z u h1 h2 f0 => ⟨z, rfl, h1, h2, f0⟩
  clear hQe
  have hm : mdf [66, 67, 70, 68, 69, 72, 75, 90, 94, 98, 102, 106, 110, 114, 118, 122, 126] v v := mdf.rf
  show ST G mi_Mo_finish 0 [(0, .ref 373), (1, .int (nI 2))] [] v 0 0 Q
  refine ST.lift (fun _ _ k => T_aload_n (v := .ref 373) d_Mo_finish_0 rfl (Or.inr ⟨_, rfl⟩) k) ?_
  refine ST.lift (fun _ _ k => T_iconst (v := nI 0) d_Mo_finish_1 (by decide) k) ?_
  refine S_putfield (v' := va_up v 66 (nI 0)) d_Mo_finish_2 (fp_Mo_316 _) (w373 _) (Nat.le_of_ble_eq_true rfl) ⟨rfl, rfl⟩ (u373_0 _ _) ?_
  have hv2 := hv.off (j := 66) (x := (nI 0)) (by decide)
  have hm3 := hm.go (mdf.up (v := v) (j := 66) (x := (nI 0))) (by intro i hi; simp only [List.mem_cons, List.not_mem_nil, or_false] at hi ⊢ <;> omega)
  have e_u1 : (va_up v 66 (nI 0)) 66 = (nI 0) := by simp [va_up]
  have e4 : (va_up v 66 (nI 0)) 67 = nI 0 := by simp only [va_up]; exact e67
  generalize va_up v 66 (nI 0) = u1 at hv2 hm3 e_u1 e4 ⊢
  refine ST.lift (fun _ _ k => T_iload_n d_Mo_finish_5 rfl k) ?_
  refine S_static (as := [.int (nI 2)]) (rest := []) d_Mo_finish_6 rfl (jw_Mo_isSession.jo (by decide)) lm_Mo_545 jt_Mo_isSession rfl (Nat.le_of_ble_eq_true rfl) (by decide) (by decide) (c_Mo_isSession G u1 2 (by omega)) (fun r v' hq => ?_)
  rw [hq.1, hq.2]
  clear hq r v'
  show ST G mi_Mo_finish 9 [(0, .ref 373), (1, .int (nI 2))] [.int (nI 1)] u1 0 0 _
  refine S_if_neN d_Mo_finish_9 rfl (by omega) (fun _ => ?_) (fun c => by first | exact absurd c (by omega) | exact c.elim | exact absurd c (by decide) | exact absurd (by assumption) c | exact absurd c (by assumption))
  refine ST.lift (fun _ _ k => T_aload_n (v := .ref 373) d_Mo_finish_14 rfl (Or.inr ⟨_, rfl⟩) k) ?_
  refine S_getfield d_Mo_finish_15 fg_Mo_395 (w373 _) rfl ?_
  refine ST.lift (fun _ _ k => T_iload_n d_Mo_finish_18 rfl k) ?_
  refine S_xload (t := 3) (k := 2) (Or.inr ⟨rfl, d_Mo_finish_19⟩) rfl (w425 _) (by decide) (by decide) ?_
  refine S_topi (y := u1 102) rfl ?_
  refine S_if_eq d_Mo_finish_20 rfl (fun c5 => ?_) (fun c5 => ?_)
  · refine ST.lift (fun _ _ k => T_iconst (v := nI 2) d_Mo_finish_32 (by decide) k) ?_
    exact S_ret d_Mo_finish_33 rfl rfl (by decide) (by decide) (hQ _ _ hv2 hm3 (e4.trans (congrArg nI (by omega))))
  · refine ST.lift (fun _ _ k => T_aload_n (v := .ref 373) d_Mo_finish_23 rfl (Or.inr ⟨_, rfl⟩) k) ?_
    refine S_getfield d_Mo_finish_24 fg_Mo_404 (w373 _) rfl ?_
    refine ST.lift (fun _ _ k => T_iload_n d_Mo_finish_27 rfl k) ?_
    refine S_xload (t := 3) (k := 2) (Or.inr ⟨rfl, d_Mo_finish_28⟩) rfl (w428 _) (by decide) (by decide) ?_
    refine S_topi (y := u1 114) rfl ?_
    refine S_if_eq d_Mo_finish_29 rfl (fun c6 => ?_) (fun c6 => ?_)
    · refine ST.lift (fun _ _ k => T_iload_n d_Mo_finish_34 rfl k) ?_
      refine ST.lift (fun _ _ k => T_istore_n (L' := [(2, .int (nI 2)), (0, .ref 373), (1, .int (nI 2))]) d_Mo_finish_35 (by decide) rfl k) ?_
      refine ST.lift (fun _ _ k => T_sipush (v := nI 320) d_Mo_finish_36 (by decide) k) ?_
      refine ST.lift (fun _ _ k => T_iload_n d_Mo_finish_39 rfl k) ?_
      refine S_imulN d_Mo_finish_40 ?_
      refine S_topi (y := nI 640) (by decide) ?_
      refine ST.lift (fun _ _ k => T_istore_n (L' := [(3, .int (nI 640)), (2, .int (nI 2)), (0, .ref 373), (1, .int (nI 2))]) d_Mo_finish_41 (by decide) rfl k) ?_
      refine ST.lift (fun _ _ k => T_aload_n (v := .ref 373) d_Mo_finish_42 rfl (Or.inr ⟨_, rfl⟩) k) ?_
      refine S_getfield d_Mo_finish_43 fg_Mo_404 (w373 _) rfl ?_
      refine ST.lift (fun _ _ k => T_iload_n d_Mo_finish_46 rfl k) ?_
      refine ST.lift (fun _ _ k => T_iconst (v := nI 1) d_Mo_finish_47 (by decide) k) ?_
      refine S_xstore (k := 2) (y := (nI 1)) (v' := va_up u1 114 (nI 1)) (Or.inr ⟨rfl, by decide, d_Mo_finish_48⟩) (by decide) rfl (w428 _) (by decide) (by decide) (x428_2 _ _) ?_
      have hv8 := hv2.off (j := 114) (x := (nI 1)) (by decide)
      have hm9 := hm3.go (mdf.up (v := u1) (j := 114) (x := (nI 1))) (by intro i hi; simp only [List.mem_cons, List.not_mem_nil, or_false] at hi ⊢ <;> omega)
      have e_u7 : (va_up u1 114 (nI 1)) 114 = (nI 1) := by simp [va_up]
      have e10 : (va_up u1 114 (nI 1)) 67 = nI 0 := by simp only [va_up]; exact e4
      have e11 : (va_up u1 114 (nI 1)) 66 = nI 0 := by simp only [va_up]; exact e_u1
      generalize va_up u1 114 (nI 1) = u7 at hv8 hm9 e_u7 e10 e11 ⊢
      refine ST.lift (fun _ _ k => T_aload_n (v := .ref 373) d_Mo_finish_49 rfl (Or.inr ⟨_, rfl⟩) k) ?_
      refine ST.lift (fun _ _ k => T_bipush (v := nI 12) d_Mo_finish_50 (by decide) k) ?_
      refine ST.lift (fun _ _ k => T_aload_n (v := .ref 373) d_Mo_finish_52 rfl (Or.inr ⟨_, rfl⟩) k) ?_
      refine S_getfield d_Mo_finish_53 fg_Mo_422 (w373 _) rfl ?_
      refine ST.lift (fun _ _ k => T_iload_n d_Mo_finish_56 rfl k) ?_
      refine S_virtual (as := [.int (nI 12), .ref 434, .int (nI 640)]) (rest := []) (b := 373) d_Mo_finish_57 rfl (jw_Mo_decode.jo (by decide)) lm_Mo_502 ji_Mo_decode js_Mo_decode (w373 _) rfl rfl rfl (Nat.le_of_ble_eq_true rfl) (by decide) (by decide) (c_Mo_decode G u7 12 (by omega) 434 1280 (by decide) a434 (by omega) 640 (by omega)) (fun r v' hq => ?_)
      obtain ⟨z12, hz12, hr, hv⟩ := hq
      rw [hr, hv]
      clear hr hv r v'
      show ST G mi_Mo_finish 60 [(3, .int (nI 640)), (2, .int (nI 2)), (0, .ref 373), (1, .int (nI 2))] [.int (nI z12)] u7 0 0 _
      refine S_if_neN d_Mo_finish_60 rfl (by omega) (fun c13 => ?_) (fun c13 => ?_)
      · refine ST.lift (fun _ _ k => T_aload_n (v := .ref 373) d_Mo_finish_65 rfl (Or.inr ⟨_, rfl⟩) k) ?_
        refine ST.lift (fun _ _ k => T_aload_n (v := .ref 373) d_Mo_finish_66 rfl (Or.inr ⟨_, rfl⟩) k) ?_
        refine S_getfield d_Mo_finish_67 fg_Mo_386 (w373 _) rfl ?_
        refine ST.lift (fun _ _ k => T_bipush (v := nI 16) d_Mo_finish_70 (by decide) k) ?_
        refine ST.lift (fun _ _ k => T_iload_n d_Mo_finish_72 rfl k) ?_
        refine S_imulN d_Mo_finish_73 ?_
        refine S_topi (y := nI 32) (by decide) ?_
        refine S_virtual (as := [.ref 422, .int (nI 32)]) (rest := []) (b := 373) d_Mo_finish_74 rfl (jw_Mo_takeScalar.jo (by decide)) lm_Mo_533 ji_Mo_takeScalar js_Mo_takeScalar (w373 _) rfl rfl rfl (Nat.le_of_ble_eq_true rfl) (by decide) (by decide) (c_Mo_takeScalar G u7 422 64 (by decide) a422 (by omega) 32 (by omega)) (fun r v' hq => ?_)
        rw [hq.1, hq.2]
        clear hq r v'
        show ST G mi_Mo_finish 77 [(3, .int (nI 640)), (2, .int (nI 2)), (0, .ref 373), (1, .int (nI 2))] [] u7 0 0 _
        refine ST.lift (fun _ _ k => T_aload_n (v := .ref 373) d_Mo_finish_77 rfl (Or.inr ⟨_, rfl⟩) k) ?_
        refine S_virtual (as := []) (rest := []) (b := 373) d_Mo_finish_78 rfl (jw_Mo_invertScalar.jo (by decide)) lm_Mo_592 ji_Mo_invertScalar js_Mo_invertScalar (w373 _) rfl rfl rfl (Nat.le_of_ble_eq_true rfl) (by decide) (by decide) (c_Mo_invertScalar G u7) (fun r v' hq => ?_)
        rw [hq.1, hq.2]
        clear hq r v'
        show ST G mi_Mo_finish 81 [(3, .int (nI 640)), (2, .int (nI 2)), (0, .ref 373), (1, .int (nI 2))] [] u7 0 0 _
        refine ST.lift (fun _ _ k => T_aload_n (v := .ref 373) d_Mo_finish_81 rfl (Or.inr ⟨_, rfl⟩) k) ?_
        refine ST.lift (fun _ _ k => T_bipush (v := nI 12) d_Mo_finish_82 (by decide) k) ?_
        refine ST.lift (fun _ _ k => T_bipush (v := nI 12) d_Mo_finish_84 (by decide) k) ?_
        refine S_virtual (as := [.int (nI 12), .int (nI 12)]) (rest := []) (b := 373) d_Mo_finish_86 rfl (jw_Mo_timesPoint.jo (by decide)) lm_Mo_290 ji_Mo_timesPoint js_Mo_timesPoint (w373 _) rfl rfl rfl (Nat.le_of_ble_eq_true rfl) (by decide) (by decide) (c_Mo_timesPoint G u7 12 (by omega) 12 (by omega)) (fun r v' hq => ?_)
        rw [hq.1, hq.2]
        clear hq r v'
        show ST G mi_Mo_finish 89 [(3, .int (nI 640)), (2, .int (nI 2)), (0, .ref 373), (1, .int (nI 2))] [] u7 0 0 _
        refine ST.lift (fun _ _ k => T_aload_n (v := .ref 373) d_Mo_finish_89 rfl (Or.inr ⟨_, rfl⟩) k) ?_
        refine ST.lift (fun _ _ k => T_bipush (v := nI 12) d_Mo_finish_90 (by decide) k) ?_
        refine S_virtual (as := [.int (nI 12)]) (rest := []) (b := 373) d_Mo_finish_92 rfl (jw_Mo_code.jo (by decide)) lm_Mo_293 ji_Mo_code js_Mo_code (w373 _) rfl rfl rfl (Nat.le_of_ble_eq_true rfl) (by decide) (by decide) (c_Mo_code G u7 12 (by omega)) (fun r v' hq => ?_)
        rw [hq.1, hq.2]
        clear hq r v'
        show ST G mi_Mo_finish 95 [(3, .int (nI 640)), (2, .int (nI 2)), (0, .ref 373), (1, .int (nI 2))] [] u7 0 0 _
        refine ST.lift (fun _ _ k => T_aload_n (v := .ref 373) d_Mo_finish_95 rfl (Or.inr ⟨_, rfl⟩) k) ?_
        refine ST.lift (fun _ _ k => T_aload_n (v := .ref 373) d_Mo_finish_96 rfl (Or.inr ⟨_, rfl⟩) k) ?_
        refine S_getfield d_Mo_finish_97 fg_Mo_380 (w373 _) rfl ?_
        refine ST.lift (fun _ _ k => T_sipush (v := nI 200) d_Mo_finish_100 (by decide) k) ?_
        refine ST.lift (fun _ _ k => T_iload_n d_Mo_finish_103 rfl k) ?_
        refine S_imulN d_Mo_finish_104 ?_
        refine S_topi (y := nI 400) (by decide) ?_
        refine ST.lift (fun _ _ k => T_aload_n (v := .ref 373) d_Mo_finish_105 rfl (Or.inr ⟨_, rfl⟩) k) ?_
        refine S_getfield d_Mo_finish_106 fg_Mo_383 (w373 _) rfl ?_
        refine ST.lift (fun _ _ k => T_iload_n d_Mo_finish_109 rfl k) ?_
        obtain ⟨k14, hk14, ek14⟩ := hv8.get (j := 94) (c := 200) (by decide)
        refine S_xload (t := 2) (k := 2) (Or.inl ⟨rfl, d_Mo_finish_110⟩) rfl (w421 _) (by decide) (by decide) ?_
        refine S_topi (y := u7 94) rfl ?_
        refine S_topi (y := nI k14) (ek14) ?_
        refine S_virtual (as := [.ref 420, .int (nI 400), .int (nI k14)]) (rest := []) (b := 373) d_Mo_finish_111 rfl (jw_Mo_second.jo (by decide)) lm_Mo_536 ji_Mo_second js_Mo_second (w373 _) rfl rfl rfl (Nat.le_of_ble_eq_true rfl) (by decide) (by decide) (c_Mo_second G u7 420 800 (by decide) a420 (by omega) 400 (by omega) k14 (by omega) 0 e10 (by omega) hv8) (fun r u15 hq => ?_)
        obtain ⟨hr, hv16, hm17, es_u15⟩ := hq
        rw [hr]
        clear hr r
        have hm19 := hm9.go hm17 (by intro i hi; simp only [List.mem_cons, List.not_mem_nil, or_false] at hi ⊢ <;> omega)
        have e20 : u15 66 = nI 0 := (hm17 66 (by decide)).trans e11
        have e21 : u15 114 = nI 1 := (hm17 114 (by decide)).trans e_u7
        have e22 : u15 94 = nI k14 := (hm17 94 (by decide)).trans ek14
        show ST G mi_Mo_finish 114 [(3, .int (nI 640)), (2, .int (nI 2)), (0, .ref 373), (1, .int (nI 2))] [] u15 0 0 _
        refine ST.lift (fun _ _ k => T_aload_n (v := .ref 373) d_Mo_finish_114 rfl (Or.inr ⟨_, rfl⟩) k) ?_
        refine S_virtual (as := []) (rest := []) (b := 373) d_Mo_finish_115 rfl (jw_Mo_maskOf.jo (by decide)) lm_Mo_542 ji_Mo_maskOf js_Mo_maskOf (w373 _) rfl rfl rfl (Nat.le_of_ble_eq_true rfl) (by decide) (by decide) (c_Mo_maskOf G u15 0 es_u15 (by omega) hv16) (fun r u23 hq => ?_)
        obtain ⟨hr, hv24, hm25, es_u23⟩ := hq
        rw [hr]
        clear hr r
        have hm27 := hm19.go hm25 (by intro i hi; simp only [List.mem_cons, List.not_mem_nil, or_false] at hi ⊢ <;> omega)
        have e28 : u23 66 = nI 0 := (hm25 66 (by decide)).trans e20
        have e29 : u23 114 = nI 1 := (hm25 114 (by decide)).trans e21
        have e30 : u23 94 = nI k14 := (hm25 94 (by decide)).trans e22
        show ST G mi_Mo_finish 118 [(3, .int (nI 640)), (2, .int (nI 2)), (0, .ref 373), (1, .int (nI 2))] [] u23 0 0 _
        refine ST.lift (fun _ _ k => T_aload_n (v := .ref 373) d_Mo_finish_118 rfl (Or.inr ⟨_, rfl⟩) k) ?_
        refine ST.lift (fun _ _ k => T_aload_n (v := .ref 373) d_Mo_finish_119 rfl (Or.inr ⟨_, rfl⟩) k) ?_
        refine S_getfield d_Mo_finish_120 fg_Mo_371 (w373 _) rfl ?_
        refine ST.lift (fun _ _ k => T_iconst (v := nI 0) d_Mo_finish_123 (by decide) k) ?_
        refine ST.lift (fun _ _ k => T_aload_n (v := .ref 373) d_Mo_finish_124 rfl (Or.inr ⟨_, rfl⟩) k) ?_
        refine S_getfield d_Mo_finish_125 fg_Mo_422 (w373 _) rfl ?_
        refine ST.lift (fun _ _ k => T_iload_n d_Mo_finish_128 rfl k) ?_
        refine ST.lift (fun _ _ k => T_bipush (v := nI 32) d_Mo_finish_129 (by decide) k) ?_
        refine S_iaddN d_Mo_finish_131 ?_
        refine S_topi (y := nI 672) (by decide) ?_
        refine S_virtual (as := [.ref 417, .int (nI 0), .ref 434, .int (nI 672)]) (rest := []) (b := 373) d_Mo_finish_132 rfl (jw_Mo_padOf.jo (by decide)) lm_Mo_578 ji_Mo_padOf js_Mo_padOf (w373 _) rfl rfl rfl (Nat.le_of_ble_eq_true rfl) (by decide) (by decide) (c_Mo_padOf G u23 417 64 (by decide) a417 (by omega) 0 (by omega) 434 1280 (by decide) a434 (by omega) 672 (by omega) 0 es_u23 (by omega) hv24) (fun r u31 hq => ?_)
        obtain ⟨hr, hv32, hm33, es_u31⟩ := hq
        rw [hr]
        clear hr r
        have hm35 := hm27.go hm33 (by intro i hi; simp only [List.mem_cons, List.not_mem_nil, or_false] at hi ⊢ <;> omega)
        have e36 : u31 66 = nI 0 := (hm33 66 (by decide)).trans e28
        have e37 : u31 114 = nI 1 := (hm33 114 (by decide)).trans e29
        have e38 : u31 94 = nI k14 := (hm33 94 (by decide)).trans e30
        show ST G mi_Mo_finish 135 [(3, .int (nI 640)), (2, .int (nI 2)), (0, .ref 373), (1, .int (nI 2))] [] u31 0 0 _
        refine ST.lift (fun _ _ k => T_iconst (v := nI 0) d_Mo_finish_135 (by decide) k) ?_
        refine ST.lift (fun _ _ k => T_istore (L' := [(4, .int (nI 0)), (3, .int (nI 640)), (2, .int (nI 2)), (0, .ref 373), (1, .int (nI 2))]) d_Mo_finish_136 (by decide) rfl k) ?_
        have lp42 : ∀ (n40 k39 : Nat), 128 - k39 = n40 → 0 ≤ k39 ∧ k39 ≤ 0 + 128 → ST G mi_Mo_finish 138 [(4, .int (nI k39)), (3, .int (nI 640)), (2, .int (nI 2)), (0, .ref 373), (1, .int (nI 2))] [] u31 0 0 Q := by
          intro n40
          induction n40 using Nat.strongRecOn with
          | _ n40 ih41 =>
            intro k39 h43 h44
            refine ST.lift (fun _ _ k => T_iload d_Mo_finish_138 rfl k) ?_
            refine ST.lift (fun _ _ k => T_sipush (v := nI 128) d_Mo_finish_140 (by decide) k) ?_
            refine S_icmp_geN d_Mo_finish_143 rfl (by omega) (by omega) (fun c45 => ?_) (fun c45 => ?_)
            · refine ST.lift (fun _ _ k => T_iconst (v := nI 0) d_Mo_finish_179 (by decide) k) ?_
              refine ST.lift (fun _ _ k => T_istore (L' := [(4, .int (nI 0)), (3, .int (nI 640)), (2, .int (nI 2)), (0, .ref 373), (1, .int (nI 2))]) d_Mo_finish_180 (by decide) rfl k) ?_
              have lp52 : ∀ (n50 k49 : Nat), 32 - k49 = n50 → 0 ≤ k49 ∧ k49 ≤ 0 + 32 → ST G mi_Mo_finish 182 [(4, .int (nI k49)), (3, .int (nI 640)), (2, .int (nI 2)), (0, .ref 373), (1, .int (nI 2))] [] u31 0 0 Q := by
                intro n50
                induction n50 using Nat.strongRecOn with
                | _ n50 ih51 =>
                  intro k49 h53 h54
                  refine ST.lift (fun _ _ k => T_iload d_Mo_finish_182 rfl k) ?_
                  refine ST.lift (fun _ _ k => T_bipush (v := nI 32) d_Mo_finish_184 (by decide) k) ?_
                  refine S_icmp_geN d_Mo_finish_186 rfl (by omega) (by omega) (fun c55 => ?_) (fun c55 => ?_)
                  · refine ST.lift (fun _ _ k => T_aload_n (v := .ref 373) d_Mo_finish_212 rfl (Or.inr ⟨_, rfl⟩) k) ?_
                    refine ST.lift (fun _ _ k => T_aload_n (v := .ref 373) d_Mo_finish_213 rfl (Or.inr ⟨_, rfl⟩) k) ?_
                    refine S_getfield d_Mo_finish_214 fg_Mo_473 (w373 _) rfl ?_
                    refine ST.lift (fun _ _ k => T_iconst (v := nI 0) d_Mo_finish_217 (by decide) k) ?_
                    refine S_virtual (as := [.ref 450, .int (nI 0)]) (rest := []) (b := 373) d_Mo_finish_218 rfl (jw_Mo_opens.jo (by decide)) lm_Mo_539 ji_Mo_opens js_Mo_opens (w373 _) rfl rfl rfl (Nat.le_of_ble_eq_true rfl) (by decide) (by decide) (c_Mo_opens G u31 450 128 (by decide) a450 (by omega) 0 (by omega) 0 es_u31 (by omega) hv32) (fun r u57 hq => ?_)
                    obtain ⟨hr, hv58, hm59, es_u57⟩ := hq
                    rw [hr]
                    clear hr r
                    have hm61 := hm35.go hm59 (by intro i hi; simp only [List.mem_cons, List.not_mem_nil, or_false] at hi ⊢ <;> omega)
                    have e62 : u57 66 = nI 0 := (hm59 66 (by decide)).trans e36
                    have e63 : u57 114 = nI 1 := (hm59 114 (by decide)).trans e37
                    have e64 : u57 94 = nI k14 := (hm59 94 (by decide)).trans e38
                    show ST G mi_Mo_finish 221 [(4, .int (nI k49)), (3, .int (nI 640)), (2, .int (nI 2)), (0, .ref 373), (1, .int (nI 2))] [] u57 0 0 _
                    refine ST.lift (fun _ _ k => T_iconst (v := nI 0) d_Mo_finish_221 (by decide) k) ?_
                    refine ST.lift (fun _ _ k => T_istore (L' := [(4, .int (nI 0)), (3, .int (nI 640)), (2, .int (nI 2)), (0, .ref 373), (1, .int (nI 2))]) d_Mo_finish_222 (by decide) rfl k) ?_
                    have lp68 : ∀ (n66 k65 : Nat), 64 - k65 = n66 → 0 ≤ k65 ∧ k65 ≤ 0 + 64 → ST G mi_Mo_finish 224 [(4, .int (nI k65)), (3, .int (nI 640)), (2, .int (nI 2)), (0, .ref 373), (1, .int (nI 2))] [] u57 0 0 Q := by
                      intro n66
                      induction n66 using Nat.strongRecOn with
                      | _ n66 ih67 =>
                        intro k65 h69 h70
                        refine ST.lift (fun _ _ k => T_iload d_Mo_finish_224 rfl k) ?_
                        refine ST.lift (fun _ _ k => T_bipush (v := nI 64) d_Mo_finish_226 (by decide) k) ?_
                        refine S_icmp_geN d_Mo_finish_228 rfl (by omega) (by omega) (fun c71 => ?_) (fun c71 => ?_)
                        · refine ST.lift (fun _ _ k => T_aload_n (v := .ref 373) d_Mo_finish_259 rfl (Or.inr ⟨_, rfl⟩) k) ?_
                          refine ST.lift (fun _ _ k => T_bipush (v := nI 12) d_Mo_finish_260 (by decide) k) ?_
                          refine ST.lift (fun _ _ k => T_aload_n (v := .ref 373) d_Mo_finish_262 rfl (Or.inr ⟨_, rfl⟩) k) ?_
                          refine S_getfield d_Mo_finish_263 fg_Mo_473 (w373 _) rfl ?_
                          refine ST.lift (fun _ _ k => T_iconst (v := nI 0) d_Mo_finish_266 (by decide) k) ?_
                          refine S_virtual (as := [.int (nI 12), .ref 450, .int (nI 0)]) (rest := []) (b := 373) d_Mo_finish_267 rfl (jw_Mo_decode.jo (by decide)) lm_Mo_502 ji_Mo_decode js_Mo_decode (w373 _) rfl rfl rfl (Nat.le_of_ble_eq_true rfl) (by decide) (by decide) (c_Mo_decode G u57 12 (by omega) 450 128 (by decide) a450 (by omega) 0 (by omega)) (fun r v' hq => ?_)
                          obtain ⟨z72, hz72, hr, hv⟩ := hq
                          rw [hr, hv]
                          clear hr hv r v'
                          show ST G mi_Mo_finish 270 [(4, .int (nI k65)), (3, .int (nI 640)), (2, .int (nI 2)), (0, .ref 373), (1, .int (nI 2))] [.int (nI z72)] u57 0 0 _
                          refine S_if_eqN d_Mo_finish_270 rfl (by omega) (fun c73 => ?_) (fun c73 => ?_)
                          · refine ST.lift (fun _ _ k => T_iconst (v := nI 1) d_Mo_finish_291 (by decide) k) ?_
                            exact S_ret d_Mo_finish_292 rfl rfl (by decide) (by decide) (hQ _ _ hv58 hm61 (es_u57.trans (congrArg nI (by omega))))
                          · refine ST.lift (fun _ _ k => T_aload_n (v := .ref 373) d_Mo_finish_273 rfl (Or.inr ⟨_, rfl⟩) k) ?_
                            refine ST.lift (fun _ _ k => T_bipush (v := nI 12) d_Mo_finish_274 (by decide) k) ?_
                            refine ST.lift (fun _ _ k => T_aload_n (v := .ref 373) d_Mo_finish_276 rfl (Or.inr ⟨_, rfl⟩) k) ?_
                            refine S_getfield d_Mo_finish_277 fg_Mo_422 (w373 _) rfl ?_
                            refine ST.lift (fun _ _ k => T_iload_n d_Mo_finish_280 rfl k) ?_
                            refine ST.lift (fun _ _ k => T_sipush (v := nI 224) d_Mo_finish_281 (by decide) k) ?_
                            refine S_iaddN d_Mo_finish_284 ?_
                            refine S_topi (y := nI 864) (by decide) ?_
                            refine S_virtual (as := [.int (nI 12), .ref 434, .int (nI 864)]) (rest := []) (b := 373) d_Mo_finish_285 rfl (jw_Mo_decode.jo (by decide)) lm_Mo_502 ji_Mo_decode js_Mo_decode (w373 _) rfl rfl rfl (Nat.le_of_ble_eq_true rfl) (by decide) (by decide) (c_Mo_decode G u57 12 (by omega) 434 1280 (by decide) a434 (by omega) 864 (by omega)) (fun r v' hq => ?_)
                            obtain ⟨z74, hz74, hr, hv⟩ := hq
                            rw [hr, hv]
                            clear hr hv r v'
                            show ST G mi_Mo_finish 288 [(4, .int (nI k65)), (3, .int (nI 640)), (2, .int (nI 2)), (0, .ref 373), (1, .int (nI 2))] [.int (nI z74)] u57 0 0 _
                            refine S_if_neN d_Mo_finish_288 rfl (by omega) (fun c75 => ?_) (fun c75 => ?_)
                            · refine ST.lift (fun _ _ k => T_aload_n (v := .ref 373) d_Mo_finish_293 rfl (Or.inr ⟨_, rfl⟩) k) ?_
                              refine ST.lift (fun _ _ k => T_aload_n (v := .ref 373) d_Mo_finish_294 rfl (Or.inr ⟨_, rfl⟩) k) ?_
                              refine S_getfield d_Mo_finish_295 fg_Mo_389 (w373 _) rfl ?_
                              refine ST.lift (fun _ _ k => T_bipush (v := nI 16) d_Mo_finish_298 (by decide) k) ?_
                              refine ST.lift (fun _ _ k => T_iload_n d_Mo_finish_300 rfl k) ?_
                              refine S_imulN d_Mo_finish_301 ?_
                              refine S_topi (y := nI 32) (by decide) ?_
                              refine S_virtual (as := [.ref 423, .int (nI 32)]) (rest := []) (b := 373) d_Mo_finish_302 rfl (jw_Mo_takeScalar.jo (by decide)) lm_Mo_533 ji_Mo_takeScalar js_Mo_takeScalar (w373 _) rfl rfl rfl (Nat.le_of_ble_eq_true rfl) (by decide) (by decide) (c_Mo_takeScalar G u57 423 64 (by decide) a423 (by omega) 32 (by omega)) (fun r v' hq => ?_)
                              rw [hq.1, hq.2]
                              clear hq r v'
                              show ST G mi_Mo_finish 305 [(4, .int (nI k65)), (3, .int (nI 640)), (2, .int (nI 2)), (0, .ref 373), (1, .int (nI 2))] [] u57 0 0 _
                              refine ST.lift (fun _ _ k => T_aload_n (v := .ref 373) d_Mo_finish_305 rfl (Or.inr ⟨_, rfl⟩) k) ?_
                              refine ST.lift (fun _ _ k => T_iconst (v := nI 0) d_Mo_finish_306 (by decide) k) ?_
                              refine ST.lift (fun _ _ k => T_bipush (v := nI 12) d_Mo_finish_307 (by decide) k) ?_
                              refine S_virtual (as := [.int (nI 0), .int (nI 12)]) (rest := []) (b := 373) d_Mo_finish_309 rfl (jw_Mo_share.jo (by decide)) lm_Mo_582 ji_Mo_share js_Mo_share (w373 _) rfl rfl rfl (Nat.le_of_ble_eq_true rfl) (by decide) (by decide) (c_Mo_share G u57 0 (by omega) 12 (by omega)) (fun r v' hq => ?_)
                              rw [hq.1, hq.2]
                              clear hq r v'
                              show ST G mi_Mo_finish 312 [(4, .int (nI k65)), (3, .int (nI 640)), (2, .int (nI 2)), (0, .ref 373), (1, .int (nI 2))] [] u57 0 0 _
                              refine ST.lift (fun _ _ k => T_aload_n (v := .ref 373) d_Mo_finish_312 rfl (Or.inr ⟨_, rfl⟩) k) ?_
                              refine ST.lift (fun _ _ k => T_aload_n (v := .ref 373) d_Mo_finish_313 rfl (Or.inr ⟨_, rfl⟩) k) ?_
                              refine S_getfield d_Mo_finish_314 fg_Mo_362 (w373 _) rfl ?_
                              refine ST.lift (fun _ _ k => T_iconst (v := nI 0) d_Mo_finish_317 (by decide) k) ?_
                              refine S_virtual (as := [.ref 414, .int (nI 0)]) (rest := []) (b := 373) d_Mo_finish_318 rfl (jw_Mo_takeScalar.jo (by decide)) lm_Mo_533 ji_Mo_takeScalar js_Mo_takeScalar (w373 _) rfl rfl rfl (Nat.le_of_ble_eq_true rfl) (by decide) (by decide) (c_Mo_takeScalar G u57 414 16 (by decide) a414 (by omega) 0 (by omega)) (fun r v' hq => ?_)
                              rw [hq.1, hq.2]
                              clear hq r v'
                              show ST G mi_Mo_finish 321 [(4, .int (nI k65)), (3, .int (nI 640)), (2, .int (nI 2)), (0, .ref 373), (1, .int (nI 2))] [] u57 0 0 _
                              refine ST.lift (fun _ _ k => T_aload_n (v := .ref 373) d_Mo_finish_321 rfl (Or.inr ⟨_, rfl⟩) k) ?_
                              refine ST.lift (fun _ _ k => T_bipush (v := nI 64) d_Mo_finish_322 (by decide) k) ?_
                              refine ST.lift (fun _ _ k => T_bipush (v := nI 12) d_Mo_finish_324 (by decide) k) ?_
                              refine S_virtual (as := [.int (nI 64), .int (nI 12)]) (rest := []) (b := 373) d_Mo_finish_326 rfl (jw_Mo_share.jo (by decide)) lm_Mo_582 ji_Mo_share js_Mo_share (w373 _) rfl rfl rfl (Nat.le_of_ble_eq_true rfl) (by decide) (by decide) (c_Mo_share G u57 64 (by omega) 12 (by omega)) (fun r v' hq => ?_)
                              rw [hq.1, hq.2]
                              clear hq r v'
                              show ST G mi_Mo_finish 329 [(4, .int (nI k65)), (3, .int (nI 640)), (2, .int (nI 2)), (0, .ref 373), (1, .int (nI 2))] [] u57 0 0 _
                              refine ST.lift (fun _ _ k => T_aload_n (v := .ref 373) d_Mo_finish_329 rfl (Or.inr ⟨_, rfl⟩) k) ?_
                              refine ST.lift (fun _ _ k => T_bipush (v := nI 12) d_Mo_finish_330 (by decide) k) ?_
                              refine ST.lift (fun _ _ k => T_aload_n (v := .ref 373) d_Mo_finish_332 rfl (Or.inr ⟨_, rfl⟩) k) ?_
                              refine S_getfield d_Mo_finish_333 fg_Mo_473 (w373 _) rfl ?_
                              refine ST.lift (fun _ _ k => T_iconst (v := nI 0) d_Mo_finish_336 (by decide) k) ?_
                              refine S_virtual (as := [.int (nI 12), .ref 450, .int (nI 0)]) (rest := []) (b := 373) d_Mo_finish_337 rfl (jw_Mo_decode.jo (by decide)) lm_Mo_502 ji_Mo_decode js_Mo_decode (w373 _) rfl rfl rfl (Nat.le_of_ble_eq_true rfl) (by decide) (by decide) (c_Mo_decode G u57 12 (by omega) 450 128 (by decide) a450 (by omega) 0 (by omega)) (fun r v' hq => ?_)
                              obtain ⟨z76, hz76, hr, hv⟩ := hq
                              rw [hr, hv]
                              clear hr hv r v'
                              show ST G mi_Mo_finish 340 [(4, .int (nI k65)), (3, .int (nI 640)), (2, .int (nI 2)), (0, .ref 373), (1, .int (nI 2))] [.int (nI z76)] u57 0 0 _
                              refine ST.lift (fun _ _ k => T_pop d_Mo_finish_340 rfl k) ?_
                              refine ST.lift (fun _ _ k => T_aload_n (v := .ref 373) d_Mo_finish_341 rfl (Or.inr ⟨_, rfl⟩) k) ?_
                              refine ST.lift (fun _ _ k => T_aload_n (v := .ref 373) d_Mo_finish_342 rfl (Or.inr ⟨_, rfl⟩) k) ?_
                              refine S_getfield d_Mo_finish_343 fg_Mo_389 (w373 _) rfl ?_
                              refine ST.lift (fun _ _ k => T_bipush (v := nI 16) d_Mo_finish_346 (by decide) k) ?_
                              refine ST.lift (fun _ _ k => T_iload_n d_Mo_finish_348 rfl k) ?_
                              refine S_imulN d_Mo_finish_349 ?_
                              refine S_topi (y := nI 32) (by decide) ?_
                              refine S_virtual (as := [.ref 423, .int (nI 32)]) (rest := []) (b := 373) d_Mo_finish_350 rfl (jw_Mo_takeScalar.jo (by decide)) lm_Mo_533 ji_Mo_takeScalar js_Mo_takeScalar (w373 _) rfl rfl rfl (Nat.le_of_ble_eq_true rfl) (by decide) (by decide) (c_Mo_takeScalar G u57 423 64 (by decide) a423 (by omega) 32 (by omega)) (fun r v' hq => ?_)
                              rw [hq.1, hq.2]
                              clear hq r v'
                              show ST G mi_Mo_finish 353 [(4, .int (nI k65)), (3, .int (nI 640)), (2, .int (nI 2)), (0, .ref 373), (1, .int (nI 2))] [] u57 0 0 _
                              refine ST.lift (fun _ _ k => T_aload_n (v := .ref 373) d_Mo_finish_353 rfl (Or.inr ⟨_, rfl⟩) k) ?_
                              refine ST.lift (fun _ _ k => T_bipush (v := nI 32) d_Mo_finish_354 (by decide) k) ?_
                              refine ST.lift (fun _ _ k => T_bipush (v := nI 12) d_Mo_finish_356 (by decide) k) ?_
                              refine S_virtual (as := [.int (nI 32), .int (nI 12)]) (rest := []) (b := 373) d_Mo_finish_358 rfl (jw_Mo_share.jo (by decide)) lm_Mo_582 ji_Mo_share js_Mo_share (w373 _) rfl rfl rfl (Nat.le_of_ble_eq_true rfl) (by decide) (by decide) (c_Mo_share G u57 32 (by omega) 12 (by omega)) (fun r v' hq => ?_)
                              rw [hq.1, hq.2]
                              clear hq r v'
                              show ST G mi_Mo_finish 361 [(4, .int (nI k65)), (3, .int (nI 640)), (2, .int (nI 2)), (0, .ref 373), (1, .int (nI 2))] [] u57 0 0 _
                              refine ST.lift (fun _ _ k => T_aload_n (v := .ref 373) d_Mo_finish_361 rfl (Or.inr ⟨_, rfl⟩) k) ?_
                              refine ST.lift (fun _ _ k => T_aload_n (v := .ref 373) d_Mo_finish_362 rfl (Or.inr ⟨_, rfl⟩) k) ?_
                              refine S_getfield d_Mo_finish_363 fg_Mo_359 (w373 _) rfl ?_
                              refine ST.lift (fun _ _ k => T_iconst (v := nI 0) d_Mo_finish_366 (by decide) k) ?_
                              refine ST.lift (fun _ _ k => T_aload_n (v := .ref 373) d_Mo_finish_367 rfl (Or.inr ⟨_, rfl⟩) k) ?_
                              refine S_getfield d_Mo_finish_368 fg_Mo_416 (w373 _) rfl ?_
                              refine ST.lift (fun _ _ k => T_bipush (v := nI 96) d_Mo_finish_371 (by decide) k) ?_
                              refine ST.lift (fun _ _ k => T_iload_n d_Mo_finish_373 rfl k) ?_
                              refine S_imulN d_Mo_finish_374 ?_
                              refine S_topi (y := nI 192) (by decide) ?_
                              refine ST.lift (fun _ _ k => T_aload_n (v := .ref 373) d_Mo_finish_375 rfl (Or.inr ⟨_, rfl⟩) k) ?_
                              refine S_getfield d_Mo_finish_376 fg_Mo_473 (w373 _) rfl ?_
                              refine ST.lift (fun _ _ k => T_iconst (v := nI 0) d_Mo_finish_379 (by decide) k) ?_
                              refine ST.lift (fun _ _ k => T_aload_n (v := .ref 373) d_Mo_finish_380 rfl (Or.inr ⟨_, rfl⟩) k) ?_
                              refine S_getfield d_Mo_finish_381 fg_Mo_422 (w373 _) rfl ?_
                              refine ST.lift (fun _ _ k => T_iload_n d_Mo_finish_384 rfl k) ?_
                              refine S_virtual (as := [.ref 413, .int (nI 0), .ref 432, .int (nI 192), .ref 450, .int (nI 0), .ref 434, .int (nI 640)]) (rest := []) (b := 373) d_Mo_finish_385 rfl (jw_Mo_preambleOf.jo (by decide)) lm_Mo_585 ji_Mo_preambleOf js_Mo_preambleOf (w373 _) rfl rfl rfl (Nat.le_of_ble_eq_true rfl) (by decide) (by decide) (c_Mo_preambleOf G u57 413 32 (by decide) a413 (by omega) 0 (by omega) 432 384 (by decide) a432 (by omega) 192 (by omega) 450 128 (by decide) a450 (by omega) 0 (by omega) 434 1280 (by decide) a434 (by omega) 640 (by omega) 0 es_u57 (by omega) hv58) (fun r u77 hq => ?_)
                              obtain ⟨hr, hv78, hm79, es_u77⟩ := hq
                              rw [hr]
                              clear hr r
                              have hm81 := hm61.go hm79 (by intro i hi; simp only [List.mem_cons, List.not_mem_nil, or_false] at hi ⊢ <;> omega)
                              have e82 : u77 66 = nI 0 := (hm79 66 (by decide)).trans e62
                              have e83 : u77 114 = nI 1 := (hm79 114 (by decide)).trans e63
                              have e84 : u77 94 = nI k14 := (hm79 94 (by decide)).trans e64
                              show ST G mi_Mo_finish 388 [(4, .int (nI k65)), (3, .int (nI 640)), (2, .int (nI 2)), (0, .ref 373), (1, .int (nI 2))] [] u77 0 0 _
                              refine ST.lift (fun _ _ k => T_aload_n (v := .ref 373) d_Mo_finish_388 rfl (Or.inr ⟨_, rfl⟩) k) ?_
                              refine S_virtual (as := []) (rest := []) (b := 373) d_Mo_finish_389 rfl (jw_Mo_derive.jo (by decide)) lm_Mo_589 ji_Mo_derive js_Mo_derive (w373 _) rfl rfl rfl (Nat.le_of_ble_eq_true rfl) (by decide) (by decide) (c_Mo_derive G u77 0 es_u77 (by omega) hv78) (fun r u85 hq => ?_)
                              obtain ⟨hr, hv86, hm87, es_u85⟩ := hq
                              rw [hr]
                              clear hr r
                              have hm89 := hm81.go hm87 (by intro i hi; simp only [List.mem_cons, List.not_mem_nil, or_false] at hi ⊢ <;> omega)
                              have e90 : u85 66 = nI 0 := (hm87 66 (by decide)).trans e82
                              have e91 : u85 114 = nI 1 := (hm87 114 (by decide)).trans e83
                              have e92 : u85 94 = nI k14 := (hm87 94 (by decide)).trans e84
                              show ST G mi_Mo_finish 392 [(4, .int (nI k65)), (3, .int (nI 640)), (2, .int (nI 2)), (0, .ref 373), (1, .int (nI 2))] [] u85 0 0 _
                              refine ST.lift (fun _ _ k => T_iconst (v := nI 0) d_Mo_finish_392 (by decide) k) ?_
                              refine ST.lift (fun _ _ k => T_istore (L' := [(4, .int (nI 0)), (3, .int (nI 640)), (2, .int (nI 2)), (0, .ref 373), (1, .int (nI 2))]) d_Mo_finish_393 (by decide) rfl k) ?_
                              have lp96 : ∀ (n94 k93 : Nat), 64 - k93 = n94 → 0 ≤ k93 ∧ k93 ≤ 0 + 64 → ST G mi_Mo_finish 395 [(4, .int (nI k93)), (3, .int (nI 640)), (2, .int (nI 2)), (0, .ref 373), (1, .int (nI 2))] [] u85 0 0 Q := by
                                intro n94
                                induction n94 using Nat.strongRecOn with
                                | _ n94 ih95 =>
                                  intro k93 h97 h98
                                  refine ST.lift (fun _ _ k => T_iload d_Mo_finish_395 rfl k) ?_
                                  refine ST.lift (fun _ _ k => T_bipush (v := nI 64) d_Mo_finish_397 (by decide) k) ?_
                                  refine S_icmp_geN d_Mo_finish_399 rfl (by omega) (by omega) (fun c99 => ?_) (fun c99 => ?_)
                                  · refine ST.lift (fun _ _ k => T_iconst (v := nI 0) d_Mo_finish_433 (by decide) k) ?_
                                    refine ST.lift (fun _ _ k => T_istore (L' := [(4, .int (nI 0)), (3, .int (nI 640)), (2, .int (nI 2)), (0, .ref 373), (1, .int (nI 2))]) d_Mo_finish_434 (by decide) rfl k) ?_
                                    have lp103 : ∀ (n101 k100 : Nat), 64 - k100 = n101 → 0 ≤ k100 ∧ k100 ≤ 0 + 64 → ST G mi_Mo_finish 436 [(4, .int (nI k100)), (3, .int (nI 640)), (2, .int (nI 2)), (0, .ref 373), (1, .int (nI 2))] [] u85 0 0 Q := by
                                      intro n101
                                      induction n101 using Nat.strongRecOn with
                                      | _ n101 ih102 =>
                                        intro k100 h104 h105
                                        refine ST.lift (fun _ _ k => T_iload d_Mo_finish_436 rfl k) ?_
                                        refine ST.lift (fun _ _ k => T_bipush (v := nI 64) d_Mo_finish_438 (by decide) k) ?_
                                        refine S_icmp_geN d_Mo_finish_440 rfl (by omega) (by omega) (fun c106 => ?_) (fun c106 => ?_)
                                        · refine ST.lift (fun _ _ k => T_aload_n (v := .ref 373) d_Mo_finish_506 rfl (Or.inr ⟨_, rfl⟩) k) ?_
                                          refine S_getfield d_Mo_finish_507 fg_Mo_410 (w373 _) rfl ?_
                                          refine ST.lift (fun _ _ k => T_iload_n d_Mo_finish_510 rfl k) ?_
                                          refine ST.lift (fun _ _ k => T_iconst (v := nI 1) d_Mo_finish_511 (by decide) k) ?_
                                          refine S_xstore (k := 2) (y := (nI 1)) (v' := va_up u85 122 (nI 1)) (Or.inr ⟨rfl, by decide, d_Mo_finish_512⟩) (by decide) rfl (w430 _) (by decide) (by decide) (x430_2 _ _) ?_
                                          have hv111 := hv86.off (j := 122) (x := (nI 1)) (by decide)
                                          have hm112 := hm89.go (mdf.up (v := u85) (j := 122) (x := (nI 1))) (by intro i hi; simp only [List.mem_cons, List.not_mem_nil, or_false] at hi ⊢ <;> omega)
                                          have e_u110 : (va_up u85 122 (nI 1)) 122 = (nI 1) := by simp [va_up]
                                          have e113 : (va_up u85 122 (nI 1)) 66 = nI 0 := by simp only [va_up]; exact e90
                                          have e114 : (va_up u85 122 (nI 1)) 114 = nI 1 := by simp only [va_up]; exact e91
                                          have e115 : (va_up u85 122 (nI 1)) 94 = nI k14 := by simp only [va_up]; exact e92
                                          have e116 : (va_up u85 122 (nI 1)) 67 = nI 0 := by simp only [va_up]; exact es_u85
                                          generalize va_up u85 122 (nI 1) = u110 at hv111 hm112 e_u110 e113 e114 e115 e116 ⊢
                                          refine ST.lift (fun _ _ k => T_aload_n (v := .ref 373) d_Mo_finish_513 rfl (Or.inr ⟨_, rfl⟩) k) ?_
                                          refine S_getfield d_Mo_finish_514 fg_Mo_398 (w373 _) rfl ?_
                                          refine ST.lift (fun _ _ k => T_iload_n d_Mo_finish_517 rfl k) ?_
                                          refine ST.lift (fun _ _ k => T_iconst (v := nI 1) d_Mo_finish_518 (by decide) k) ?_
                                          refine S_xstore (k := 2) (y := (nI 1)) (v' := va_up u110 106 (nI 1)) (Or.inr ⟨rfl, by decide, d_Mo_finish_519⟩) (by decide) rfl (w426 _) (by decide) (by decide) (x426_2 _ _) ?_
                                          have hv118 := hv111.off (j := 106) (x := (nI 1)) (by decide)
                                          have hm119 := hm112.go (mdf.up (v := u110) (j := 106) (x := (nI 1))) (by intro i hi; simp only [List.mem_cons, List.not_mem_nil, or_false] at hi ⊢ <;> omega)
                                          have e_u117 : (va_up u110 106 (nI 1)) 106 = (nI 1) := by simp [va_up]
                                          have e120 : (va_up u110 106 (nI 1)) 66 = nI 0 := by simp only [va_up]; exact e113
                                          have e121 : (va_up u110 106 (nI 1)) 114 = nI 1 := by simp only [va_up]; exact e114
                                          have e122 : (va_up u110 106 (nI 1)) 94 = nI k14 := by simp only [va_up]; exact e115
                                          have e123 : (va_up u110 106 (nI 1)) 67 = nI 0 := by simp only [va_up]; exact e116
                                          have e124 : (va_up u110 106 (nI 1)) 122 = nI 1 := by simp only [va_up]; exact e_u110
                                          generalize va_up u110 106 (nI 1) = u117 at hv118 hm119 e_u117 e120 e121 e122 e123 e124 ⊢
                                          refine ST.lift (fun _ _ k => T_iconst (v := nI 0) d_Mo_finish_520 (by decide) k) ?_
                                          exact S_ret d_Mo_finish_521 rfl rfl (by decide) (by decide) (hQ _ _ hv118 hm119 (e123.trans (congrArg nI (by omega))))
                                        · refine ST.lift (fun _ _ k => T_aload_n (v := .ref 373) d_Mo_finish_443 rfl (Or.inr ⟨_, rfl⟩) k) ?_
                                          refine S_getfield d_Mo_finish_444 fg_Mo_425 (w373 _) rfl ?_
                                          refine ST.lift (fun _ _ k => T_bipush (v := nI 64) d_Mo_finish_447 (by decide) k) ?_
                                          refine ST.lift (fun _ _ k => T_iload_n d_Mo_finish_449 rfl k) ?_
                                          refine S_imulN d_Mo_finish_450 ?_
                                          refine S_topi (y := nI 128) (by decide) ?_
                                          refine ST.lift (fun _ _ k => T_iload d_Mo_finish_451 rfl k) ?_
                                          refine S_iaddN d_Mo_finish_453 ?_
                                          refine ST.lift (fun _ _ k => T_aload_n (v := .ref 373) d_Mo_finish_454 rfl (Or.inr ⟨_, rfl⟩) k) ?_
                                          refine S_getfield d_Mo_finish_455 fg_Mo_461 (w373 _) rfl ?_
                                          refine ST.lift (fun _ _ k => T_iload d_Mo_finish_458 rfl k) ?_
                                          refine S_iaload d_Mo_finish_460 a446 (vp_in_nI (by omega) (by omega)) (fun z125 => ?_)
                                          refine S_iastore d_Mo_finish_461 (by decide) a435 (vp_in_nI (by omega) (by omega)) ?_
                                          refine ST.lift (fun _ _ k => T_aload_n (v := .ref 373) d_Mo_finish_462 rfl (Or.inr ⟨_, rfl⟩) k) ?_
                                          refine S_getfield d_Mo_finish_463 fg_Mo_431 (w373 _) rfl ?_
                                          refine ST.lift (fun _ _ k => T_bipush (v := nI 64) d_Mo_finish_466 (by decide) k) ?_
                                          refine ST.lift (fun _ _ k => T_iload_n d_Mo_finish_468 rfl k) ?_
                                          refine S_imulN d_Mo_finish_469 ?_
                                          refine S_topi (y := nI 128) (by decide) ?_
                                          refine ST.lift (fun _ _ k => T_iload d_Mo_finish_470 rfl k) ?_
                                          refine S_iaddN d_Mo_finish_472 ?_
                                          refine ST.lift (fun _ _ k => T_aload_n (v := .ref 373) d_Mo_finish_473 rfl (Or.inr ⟨_, rfl⟩) k) ?_
                                          refine S_getfield d_Mo_finish_474 fg_Mo_464 (w373 _) rfl ?_
                                          refine ST.lift (fun _ _ k => T_iload d_Mo_finish_477 rfl k) ?_
                                          refine S_iaload d_Mo_finish_479 a447 (vp_in_nI (by omega) (by omega)) (fun z126 => ?_)
                                          refine S_iastore d_Mo_finish_480 (by decide) a437 (vp_in_nI (by omega) (by omega)) ?_
                                          refine ST.lift (fun _ _ k => T_aload_n (v := .ref 373) d_Mo_finish_481 rfl (Or.inr ⟨_, rfl⟩) k) ?_
                                          refine S_getfield d_Mo_finish_482 fg_Mo_437 (w373 _) rfl ?_
                                          refine ST.lift (fun _ _ k => T_bipush (v := nI 64) d_Mo_finish_485 (by decide) k) ?_
                                          refine ST.lift (fun _ _ k => T_iload_n d_Mo_finish_487 rfl k) ?_
                                          refine S_imulN d_Mo_finish_488 ?_
                                          refine S_topi (y := nI 128) (by decide) ?_
                                          refine ST.lift (fun _ _ k => T_iload d_Mo_finish_489 rfl k) ?_
                                          refine S_iaddN d_Mo_finish_491 ?_
                                          refine ST.lift (fun _ _ k => T_aload_n (v := .ref 373) d_Mo_finish_492 rfl (Or.inr ⟨_, rfl⟩) k) ?_
                                          refine S_getfield d_Mo_finish_493 fg_Mo_368 (w373 _) rfl ?_
                                          refine ST.lift (fun _ _ k => T_iload d_Mo_finish_496 rfl k) ?_
                                          refine S_iaload d_Mo_finish_498 a416 (vp_in_nI (by omega) (by omega)) (fun z127 => ?_)
                                          refine S_iastore d_Mo_finish_499 (by decide) a439 (vp_in_nI (by omega) (by omega)) ?_
                                          refine S_iincN (a := k100) (b := 1) (L' := [(4, .int (nI (k100 + 1))), (3, .int (nI 640)), (2, .int (nI 2)), (0, .ref 373), (1, .int (nI 2))]) d_Mo_finish_500 (by decide) rfl rfl rfl ?_
                                          refine ST.lift (fun _ _ k => T_goto (tgt := 436) d_Mo_finish_503 rfl k) ?_
                                          exact ih102 (64 - (k100 + 1)) (by omega) (k100 + 1)  rfl (by omega)
                                    exact lp103 _ 0  rfl (by omega)
                                  · refine ST.lift (fun _ _ k => T_aload_n (v := .ref 373) d_Mo_finish_402 rfl (Or.inr ⟨_, rfl⟩) k) ?_
                                    refine S_getfield d_Mo_finish_403 fg_Mo_458 (w373 _) rfl ?_
                                    refine ST.lift (fun _ _ k => T_iload d_Mo_finish_406 rfl k) ?_
                                    refine S_iaload d_Mo_finish_408 a445 (vp_in_nI (by omega) (by omega)) (fun z128 => ?_)
                                    refine ST.lift (fun _ _ k => T_aload_n (v := .ref 373) d_Mo_finish_409 rfl (Or.inr ⟨_, rfl⟩) k) ?_
                                    refine S_getfield d_Mo_finish_410 fg_Mo_422 (w373 _) rfl ?_
                                    refine ST.lift (fun _ _ k => T_iload_n d_Mo_finish_413 rfl k) ?_
                                    refine ST.lift (fun _ _ k => T_sipush (v := nI 256) d_Mo_finish_414 (by decide) k) ?_
                                    refine S_iaddN d_Mo_finish_417 ?_
                                    refine S_topi (y := nI 896) (by decide) ?_
                                    refine ST.lift (fun _ _ k => T_iload d_Mo_finish_418 rfl k) ?_
                                    refine S_iaddN d_Mo_finish_420 ?_
                                    refine S_iaload d_Mo_finish_421 a434 (vp_in_nI (by omega) (by omega)) (fun z129 => ?_)
                                    refine S_icmp_eq d_Mo_finish_422 rfl (fun c130 => ?_) (fun c130 => ?_)
                                    · refine S_iincN (a := k93) (b := 1) (L' := [(4, .int (nI (k93 + 1))), (3, .int (nI 640)), (2, .int (nI 2)), (0, .ref 373), (1, .int (nI 2))]) d_Mo_finish_427 (by decide) rfl rfl rfl ?_
                                      refine ST.lift (fun _ _ k => T_goto (tgt := 395) d_Mo_finish_430 rfl k) ?_
                                      exact ih95 (64 - (k93 + 1)) (by omega) (k93 + 1)  rfl (by omega)
                                    · refine ST.lift (fun _ _ k => T_iconst (v := nI 4) d_Mo_finish_425 (by decide) k) ?_
                                      exact S_ret d_Mo_finish_426 rfl rfl (by decide) (by decide) (hQ _ _ hv86 hm89 (es_u85.trans (congrArg nI (by omega))))
                              exact lp96 _ 0  rfl (by omega)
                            · refine ST.lift (fun _ _ k => T_iconst (v := nI 1) d_Mo_finish_291 (by decide) k) ?_
                              exact S_ret d_Mo_finish_292 rfl rfl (by decide) (by decide) (hQ _ _ hv58 hm61 (es_u57.trans (congrArg nI (by omega))))
                        · refine ST.lift (fun _ _ k => T_aload_n (v := .ref 373) d_Mo_finish_231 rfl (Or.inr ⟨_, rfl⟩) k) ?_
                          refine S_getfield d_Mo_finish_232 fg_Mo_365 (w373 _) rfl ?_
                          refine ST.lift (fun _ _ k => T_iload d_Mo_finish_235 rfl k) ?_
                          refine S_iaload d_Mo_finish_237 a415 (vp_in_nI (by omega) (by omega)) (fun z131 => ?_)
                          refine ST.lift (fun _ _ k => T_aload_n (v := .ref 373) d_Mo_finish_238 rfl (Or.inr ⟨_, rfl⟩) k) ?_
                          refine S_getfield d_Mo_finish_239 fg_Mo_473 (w373 _) rfl ?_
                          refine ST.lift (fun _ _ k => T_bipush (v := nI 64) d_Mo_finish_242 (by decide) k) ?_
                          refine ST.lift (fun _ _ k => T_iload d_Mo_finish_244 rfl k) ?_
                          refine S_iaddN d_Mo_finish_246 ?_
                          refine S_iaload d_Mo_finish_247 a450 (vp_in_nI (by omega) (by omega)) (fun z132 => ?_)
                          refine S_icmp_eq d_Mo_finish_248 rfl (fun c133 => ?_) (fun c133 => ?_)
                          · refine S_iincN (a := k65) (b := 1) (L' := [(4, .int (nI (k65 + 1))), (3, .int (nI 640)), (2, .int (nI 2)), (0, .ref 373), (1, .int (nI 2))]) d_Mo_finish_253 (by decide) rfl rfl rfl ?_
                            refine ST.lift (fun _ _ k => T_goto (tgt := 224) d_Mo_finish_256 rfl k) ?_
                            exact ih67 (64 - (k65 + 1)) (by omega) (k65 + 1)  rfl (by omega)
                          · refine ST.lift (fun _ _ k => T_iconst (v := nI 3) d_Mo_finish_251 (by decide) k) ?_
                            exact S_ret d_Mo_finish_252 rfl rfl (by decide) (by decide) (hQ _ _ hv58 hm61 (es_u57.trans (congrArg nI (by omega))))
                    exact lp68 _ 0  rfl (by omega)
                  · refine ST.lift (fun _ _ k => T_aload_n (v := .ref 373) d_Mo_finish_189 rfl (Or.inr ⟨_, rfl⟩) k) ?_
                    refine S_getfield d_Mo_finish_190 fg_Mo_356 (w373 _) rfl ?_
                    refine ST.lift (fun _ _ k => T_iload d_Mo_finish_193 rfl k) ?_
                    refine ST.lift (fun _ _ k => T_aload_n (v := .ref 373) d_Mo_finish_195 rfl (Or.inr ⟨_, rfl⟩) k) ?_
                    refine S_getfield d_Mo_finish_196 fg_Mo_473 (w373 _) rfl ?_
                    refine ST.lift (fun _ _ k => T_bipush (v := nI 32) d_Mo_finish_199 (by decide) k) ?_
                    refine ST.lift (fun _ _ k => T_iload d_Mo_finish_201 rfl k) ?_
                    refine S_iaddN d_Mo_finish_203 ?_
                    refine S_iaload d_Mo_finish_204 a450 (vp_in_nI (by omega) (by omega)) (fun z134 => ?_)
                    refine S_iastore d_Mo_finish_205 (by decide) a412 (vp_in_nI (by omega) (by omega)) ?_
                    refine S_iincN (a := k49) (b := 1) (L' := [(4, .int (nI (k49 + 1))), (3, .int (nI 640)), (2, .int (nI 2)), (0, .ref 373), (1, .int (nI 2))]) d_Mo_finish_206 (by decide) rfl rfl rfl ?_
                    refine ST.lift (fun _ _ k => T_goto (tgt := 182) d_Mo_finish_209 rfl k) ?_
                    exact ih51 (32 - (k49 + 1)) (by omega) (k49 + 1)  rfl (by omega)
              exact lp52 _ 0  rfl (by omega)
            · refine ST.lift (fun _ _ k => T_aload_n (v := .ref 373) d_Mo_finish_146 rfl (Or.inr ⟨_, rfl⟩) k) ?_
              refine S_getfield d_Mo_finish_147 fg_Mo_473 (w373 _) rfl ?_
              refine ST.lift (fun _ _ k => T_iload d_Mo_finish_150 rfl k) ?_
              refine ST.lift (fun _ _ k => T_aload_n (v := .ref 373) d_Mo_finish_152 rfl (Or.inr ⟨_, rfl⟩) k) ?_
              refine S_getfield d_Mo_finish_153 fg_Mo_422 (w373 _) rfl ?_
              refine ST.lift (fun _ _ k => T_iload_n d_Mo_finish_156 rfl k) ?_
              refine ST.lift (fun _ _ k => T_bipush (v := nI 64) d_Mo_finish_157 (by decide) k) ?_
              refine S_iaddN d_Mo_finish_159 ?_
              refine S_topi (y := nI 704) (by decide) ?_
              refine ST.lift (fun _ _ k => T_iload d_Mo_finish_160 rfl k) ?_
              refine S_iaddN d_Mo_finish_162 ?_
              refine S_iaload d_Mo_finish_163 a434 (vp_in_nI (by omega) (by omega)) (fun z135 => ?_)
              refine ST.lift (fun _ _ k => T_aload_n (v := .ref 373) d_Mo_finish_164 rfl (Or.inr ⟨_, rfl⟩) k) ?_
              refine S_getfield d_Mo_finish_165 fg_Mo_467 (w373 _) rfl ?_
              refine ST.lift (fun _ _ k => T_iload d_Mo_finish_168 rfl k) ?_
              refine S_iaload d_Mo_finish_170 a448 (vp_in_nI (by omega) (by omega)) (fun z136 => ?_)
              refine ST.lift (fun _ _ k => T_ixor d_Mo_finish_171 k) (S_anyi fun z137 => ?_)
              refine S_iastore d_Mo_finish_172 (by decide) a450 (vp_in_nI (by omega) (by omega)) ?_
              refine S_iincN (a := k39) (b := 1) (L' := [(4, .int (nI (k39 + 1))), (3, .int (nI 640)), (2, .int (nI 2)), (0, .ref 373), (1, .int (nI 2))]) d_Mo_finish_173 (by decide) rfl rfl rfl ?_
              refine ST.lift (fun _ _ k => T_goto (tgt := 138) d_Mo_finish_176 rfl k) ?_
              exact ih41 (128 - (k39 + 1)) (by omega) (k39 + 1)  rfl (by omega)
        exact lp42 _ 0  rfl (by omega)
      · refine ST.lift (fun _ _ k => T_iconst (v := nI 1) d_Mo_finish_63 (by decide) k) ?_
        exact S_ret d_Mo_finish_64 rfl rfl (by decide) (by decide) (hQ _ _ hv8 hm9 (e10.trans (congrArg nI (by omega))))
    · refine ST.lift (fun _ _ k => T_iconst (v := nI 2) d_Mo_finish_32 (by decide) k) ?_
      exact S_ret d_Mo_finish_33 rfl rfl (by decide) (by decide) (hQ _ _ hv2 hm3 (e4.trans (congrArg nI (by omega))))
set_option maxRecDepth 100000 in
set_option maxHeartbeats 4000000 in
theorem c_Mo_accept_2 (G : GX) (v : Nat → Int32) (e67 : v 67 = nI 0) (hv : okv v) : CS G mi_Mo_accept [.ref 373, .int (nI 2)] v (fun r v' => ∃ z : Int32, r = some (.int z) ∧ okv v' ∧ mdf [66, 67, 70, 68, 69, 72, 75, 90, 94, 98, 102, 106, 110, 114, 118, 122, 126] v v' ∧ v' 67 = nI 0) := by
  refine CS.of (by decide) (Nat.le_of_ble_eq_true rfl) ?_
  generalize hQe : (fun (r : Option Value) (v' : Nat → Int32) => ∃ z : Int32, r = some (.int z) ∧ okv v' ∧ mdf [66, 67, 70, 68, 69, 72, 75, 90, 94, 98, 102, 106, 110, 114, 118, 122, 126] v v' ∧ v' 67 = nI 0) = Q
  have hQ : ∀ (z : Int32) (u : Nat → Int32), okv u → mdf [66, 67, 70, 68, 69, 72, 75, 90, 94, 98, 102, 106, 110, 114, 118, 122, 126] v u → u 67 = nI 0 → Q (some (.int z)) u := by rw [← hQe]; exact fun z u h1 h2 f0 => ⟨z, rfl, h1, h2, f0⟩
  clear hQe
  have hm : mdf [66, 67, 70, 68, 69, 72, 75, 90, 94, 98, 102, 106, 110, 114, 118, 122, 126] v v := mdf.rf
  show ST G mi_Mo_accept 0 [(0, .ref 373), (1, .int (nI 2))] [] v 0 0 Q
  refine ST.lift (fun _ _ k => T_aload_n (v := .ref 373) d_Mo_accept_0 rfl (Or.inr ⟨_, rfl⟩) k) ?_
  refine ST.lift (fun _ _ k => T_iconst (v := nI 0) d_Mo_accept_1 (by decide) k) ?_
  refine S_putfield (v' := va_up v 66 (nI 0)) d_Mo_accept_2 (fp_Mo_316 _) (w373 _) (Nat.le_of_ble_eq_true rfl) ⟨rfl, rfl⟩ (u373_0 _ _) ?_
  have hv2 := hv.off (j := 66) (x := (nI 0)) (by decide)
  have hm3 := hm.go (mdf.up (v := v) (j := 66) (x := (nI 0))) (by intro i hi; simp only [List.mem_cons, List.not_mem_nil, or_false] at hi ⊢ <;> omega)
  have e_u1 : (va_up v 66 (nI 0)) 66 = (nI 0) := by simp [va_up]
  have e4 : (va_up v 66 (nI 0)) 67 = nI 0 := by simp only [va_up]; exact e67
  generalize va_up v 66 (nI 0) = u1 at hv2 hm3 e_u1 e4 ⊢
  refine ST.lift (fun _ _ k => T_iload_n d_Mo_accept_5 rfl k) ?_
  refine S_static (as := [.int (nI 2)]) (rest := []) d_Mo_accept_6 rfl (jw_Mo_isSession.jo (by decide)) lm_Mo_545 jt_Mo_isSession rfl (Nat.le_of_ble_eq_true rfl) (by decide) (by decide) (c_Mo_isSession G u1 2 (by omega)) (fun r v' hq => ?_)
  rw [hq.1, hq.2]
  clear hq r v'
  show ST G mi_Mo_accept 9 [(0, .ref 373), (1, .int (nI 2))] [.int (nI 1)] u1 0 0 _
  refine S_if_neN d_Mo_accept_9 rfl (by omega) (fun _ => ?_) (fun c => by first | exact absurd c (by omega) | exact c.elim | exact absurd c (by decide) | exact absurd (by assumption) c | exact absurd c (by assumption))
  refine ST.lift (fun _ _ k => T_aload_n (v := .ref 373) d_Mo_accept_14 rfl (Or.inr ⟨_, rfl⟩) k) ?_
  refine S_getfield d_Mo_accept_15 fg_Mo_398 (w373 _) rfl ?_
  refine ST.lift (fun _ _ k => T_iload_n d_Mo_accept_18 rfl k) ?_
  refine S_xload (t := 3) (k := 2) (Or.inr ⟨rfl, d_Mo_accept_19⟩) rfl (w426 _) (by decide) (by decide) ?_
  refine S_topi (y := u1 106) rfl ?_
  refine S_if_eq d_Mo_accept_20 rfl (fun c5 => ?_) (fun c5 => ?_)
  · refine ST.lift (fun _ _ k => T_iconst (v := nI 2) d_Mo_accept_32 (by decide) k) ?_
    exact S_ret d_Mo_accept_33 rfl rfl (by decide) (by decide) (hQ _ _ hv2 hm3 (e4.trans (congrArg nI (by omega))))
  · refine ST.lift (fun _ _ k => T_aload_n (v := .ref 373) d_Mo_accept_23 rfl (Or.inr ⟨_, rfl⟩) k) ?_
    refine S_getfield d_Mo_accept_24 fg_Mo_407 (w373 _) rfl ?_
    refine ST.lift (fun _ _ k => T_iload_n d_Mo_accept_27 rfl k) ?_
    refine S_xload (t := 3) (k := 2) (Or.inr ⟨rfl, d_Mo_accept_28⟩) rfl (w429 _) (by decide) (by decide) ?_
    refine S_topi (y := u1 118) rfl ?_
    refine S_if_eq d_Mo_accept_29 rfl (fun c6 => ?_) (fun c6 => ?_)
    · refine ST.lift (fun _ _ k => T_aload_n (v := .ref 373) d_Mo_accept_34 rfl (Or.inr ⟨_, rfl⟩) k) ?_
      refine S_getfield d_Mo_accept_35 fg_Mo_407 (w373 _) rfl ?_
      refine ST.lift (fun _ _ k => T_iload_n d_Mo_accept_38 rfl k) ?_
      refine ST.lift (fun _ _ k => T_iconst (v := nI 1) d_Mo_accept_39 (by decide) k) ?_
      refine S_xstore (k := 2) (y := (nI 1)) (v' := va_up u1 118 (nI 1)) (Or.inr ⟨rfl, by decide, d_Mo_accept_40⟩) (by decide) rfl (w429 _) (by decide) (by decide) (x429_2 _ _) ?_
      have hv8 := hv2.off (j := 118) (x := (nI 1)) (by decide)
      have hm9 := hm3.go (mdf.up (v := u1) (j := 118) (x := (nI 1))) (by intro i hi; simp only [List.mem_cons, List.not_mem_nil, or_false] at hi ⊢ <;> omega)
      have e_u7 : (va_up u1 118 (nI 1)) 118 = (nI 1) := by simp [va_up]
      have e10 : (va_up u1 118 (nI 1)) 67 = nI 0 := by simp only [va_up]; exact e4
      have e11 : (va_up u1 118 (nI 1)) 66 = nI 0 := by simp only [va_up]; exact e_u1
      generalize va_up u1 118 (nI 1) = u7 at hv8 hm9 e_u7 e10 e11 ⊢
      refine ST.lift (fun _ _ k => T_iconst (v := nI 0) d_Mo_accept_41 (by decide) k) ?_
      refine ST.lift (fun _ _ k => T_istore_n (L' := [(2, .int (nI 0)), (0, .ref 373), (1, .int (nI 2))]) d_Mo_accept_42 (by decide) rfl k) ?_
      have lp15 : ∀ (n13 k12 : Nat), 64 - k12 = n13 → 0 ≤ k12 ∧ k12 ≤ 0 + 64 → ST G mi_Mo_accept 43 [(2, .int (nI k12)), (0, .ref 373), (1, .int (nI 2))] [] u7 0 0 Q := by
        intro n13
        induction n13 using Nat.strongRecOn with
        | _ n13 ih14 =>
          intro k12 h16 h17
          refine ST.lift (fun _ _ k => T_iload_n d_Mo_accept_43 rfl k) ?_
          refine ST.lift (fun _ _ k => T_bipush (v := nI 64) d_Mo_accept_44 (by decide) k) ?_
          refine S_icmp_geN d_Mo_accept_46 rfl (by omega) (by omega) (fun c18 => ?_) (fun c18 => ?_)
          · refine ST.lift (fun _ _ k => T_aload_n (v := .ref 373) d_Mo_accept_82 rfl (Or.inr ⟨_, rfl⟩) k) ?_
            refine S_getfield d_Mo_accept_83 fg_Mo_413 (w373 _) rfl ?_
            refine ST.lift (fun _ _ k => T_iload_n d_Mo_accept_86 rfl k) ?_
            refine ST.lift (fun _ _ k => T_iconst (v := nI 1) d_Mo_accept_87 (by decide) k) ?_
            refine S_xstore (k := 2) (y := (nI 1)) (v' := va_up u7 126 (nI 1)) (Or.inr ⟨rfl, by decide, d_Mo_accept_88⟩) (by decide) rfl (w431 _) (by decide) (by decide) (x431_2 _ _) ?_
            have hv20 := hv8.off (j := 126) (x := (nI 1)) (by decide)
            have hm21 := hm9.go (mdf.up (v := u7) (j := 126) (x := (nI 1))) (by intro i hi; simp only [List.mem_cons, List.not_mem_nil, or_false] at hi ⊢ <;> omega)
            have e_u19 : (va_up u7 126 (nI 1)) 126 = (nI 1) := by simp [va_up]
            have e22 : (va_up u7 126 (nI 1)) 67 = nI 0 := by simp only [va_up]; exact e10
            have e23 : (va_up u7 126 (nI 1)) 66 = nI 0 := by simp only [va_up]; exact e11
            have e24 : (va_up u7 126 (nI 1)) 118 = nI 1 := by simp only [va_up]; exact e_u7
            generalize va_up u7 126 (nI 1) = u19 at hv20 hm21 e_u19 e22 e23 e24 ⊢
            refine ST.lift (fun _ _ k => T_iconst (v := nI 0) d_Mo_accept_89 (by decide) k) ?_
            exact S_ret d_Mo_accept_90 rfl rfl (by decide) (by decide) (hQ _ _ hv20 hm21 (e22.trans (congrArg nI (by omega))))
          · refine ST.lift (fun _ _ k => T_aload_n (v := .ref 373) d_Mo_accept_49 rfl (Or.inr ⟨_, rfl⟩) k) ?_
            refine S_getfield d_Mo_accept_50 fg_Mo_425 (w373 _) rfl ?_
            refine ST.lift (fun _ _ k => T_bipush (v := nI 64) d_Mo_accept_53 (by decide) k) ?_
            refine ST.lift (fun _ _ k => T_iload_n d_Mo_accept_55 rfl k) ?_
            refine S_imulN d_Mo_accept_56 ?_
            refine S_topi (y := nI 128) (by decide) ?_
            refine ST.lift (fun _ _ k => T_iload_n d_Mo_accept_57 rfl k) ?_
            refine S_iaddN d_Mo_accept_58 ?_
            refine S_iaload d_Mo_accept_59 a435 (vp_in_nI (by omega) (by omega)) (fun z25 => ?_)
            refine ST.lift (fun _ _ k => T_aload_n (v := .ref 373) d_Mo_accept_60 rfl (Or.inr ⟨_, rfl⟩) k) ?_
            refine S_getfield d_Mo_accept_61 fg_Mo_428 (w373 _) rfl ?_
            refine ST.lift (fun _ _ k => T_bipush (v := nI 64) d_Mo_accept_64 (by decide) k) ?_
            refine ST.lift (fun _ _ k => T_iload_n d_Mo_accept_66 rfl k) ?_
            refine S_imulN d_Mo_accept_67 ?_
            refine S_topi (y := nI 128) (by decide) ?_
            refine ST.lift (fun _ _ k => T_iload_n d_Mo_accept_68 rfl k) ?_
            refine S_iaddN d_Mo_accept_69 ?_
            refine S_iaload d_Mo_accept_70 a436 (vp_in_nI (by omega) (by omega)) (fun z26 => ?_)
            refine S_icmp_eq d_Mo_accept_71 rfl (fun c27 => ?_) (fun c27 => ?_)
            · refine S_iincN (a := k12) (b := 1) (L' := [(2, .int (nI (k12 + 1))), (0, .ref 373), (1, .int (nI 2))]) d_Mo_accept_76 (by decide) rfl rfl rfl ?_
              refine ST.lift (fun _ _ k => T_goto (tgt := 43) d_Mo_accept_79 rfl k) ?_
              exact ih14 (64 - (k12 + 1)) (by omega) (k12 + 1)  rfl (by omega)
            · refine ST.lift (fun _ _ k => T_iconst (v := nI 5) d_Mo_accept_74 (by decide) k) ?_
              exact S_ret d_Mo_accept_75 rfl rfl (by decide) (by decide) (hQ _ _ hv8 hm9 (e10.trans (congrArg nI (by omega))))
      exact lp15 _ 0  rfl (by omega)
    · refine ST.lift (fun _ _ k => T_iconst (v := nI 2) d_Mo_accept_32 (by decide) k) ?_
      exact S_ret d_Mo_accept_33 rfl rfl (by decide) (by decide) (hQ _ _ hv2 hm3 (e4.trans (congrArg nI (by omega))))
set_option maxRecDepth 100000 in
set_option maxHeartbeats 4000000 in
theorem c_Mo_begin_3 (G : GX) (v : Nat → Int32) (usr : Nat) (b_usr : usr ≤ 7) (e67 : v 67 = nI 0) (hv : okv v) : CS G mi_Mo_begin [.ref 373, .int (nI 3), .int (nI usr)] v (fun r v' => r = some (.int (nI 0)) ∧ okv v' ∧ mdf [66, 67, 73, 70, 68, 69, 72, 75, 91, 95, 99, 103, 107, 111, 115, 119, 123, 127] v v' ∧ v' 67 = nI 0 ∧ v' 73 = nI 0) := by
  refine CS.of (by decide) (Nat.le_of_ble_eq_true rfl) ?_
  generalize hQe : (fun (r : Option Value) (v' : Nat → Int32) => r = some (.int (nI 0)) ∧ okv v' ∧ mdf [66, 67, 73, 70, 68, 69, 72, 75, 91, 95, 99, 103, 107, 111, 115, 119, 123, 127] v v' ∧ v' 67 = nI 0 ∧ v' 73 = nI 0) = Q
  have hQ : ∀ u, okv u → mdf [66, 67, 73, 70, 68, 69, 72, 75, 91, 95, 99, 103, 107, 111, 115, 119, 123, 127] v u → u 67 = nI 0 → u 73 = nI 0 → Q (some (.int (nI 0))) u := by rw [← hQe]; exact fun u h1 h2 f0 f1 => ⟨rfl, h1, h2, f0, f1⟩
  clear hQe
  have hm : mdf [66, 67, 73, 70, 68, 69, 72, 75, 91, 95, 99, 103, 107, 111, 115, 119, 123, 127] v v := mdf.rf
  show ST G mi_Mo_begin 0 [(0, .ref 373), (1, .int (nI 3)), (2, .int (nI usr))] [] v 0 0 Q
  refine ST.lift (fun _ _ k => T_aload_n (v := .ref 373) d_Mo_begin_0 rfl (Or.inr ⟨_, rfl⟩) k) ?_
  refine ST.lift (fun _ _ k => T_iconst (v := nI 0) d_Mo_begin_1 (by decide) k) ?_
  refine S_putfield (v' := va_up v 66 (nI 0)) d_Mo_begin_2 (fp_Mo_316 _) (w373 _) (Nat.le_of_ble_eq_true rfl) ⟨rfl, rfl⟩ (u373_0 _ _) ?_
  have hv2 := hv.off (j := 66) (x := (nI 0)) (by decide)
  have hm3 := hm.go (mdf.up (v := v) (j := 66) (x := (nI 0))) (by intro i hi; simp only [List.mem_cons, List.not_mem_nil, or_false] at hi ⊢ <;> omega)
  have e_u1 : (va_up v 66 (nI 0)) 66 = (nI 0) := by simp [va_up]
  have e4 : (va_up v 66 (nI 0)) 67 = nI 0 := by simp only [va_up]; exact e67
  generalize va_up v 66 (nI 0) = u1 at hv2 hm3 e_u1 e4 ⊢
  refine ST.lift (fun _ _ k => T_aload_n (v := .ref 373) d_Mo_begin_5 rfl (Or.inr ⟨_, rfl⟩) k) ?_
  obtain ⟨k5, hk5, ek5⟩ := hv2.get (j := 73) (c := 200) (by decide)
  refine S_getfield d_Mo_begin_6 fg_Mo_344 (w373 _) rfl ?_
  refine S_topi (y := nI k5) (ek5) ?_
  refine ST.lift (fun _ _ k => T_istore_n (L' := [(3, .int (nI k5)), (0, .ref 373), (1, .int (nI 3)), (2, .int (nI usr))]) d_Mo_begin_9 (by decide) rfl k) ?_
  refine ST.lift (fun _ _ k => T_aload_n (v := .ref 373) d_Mo_begin_10 rfl (Or.inr ⟨_, rfl⟩) k) ?_
  refine ST.lift (fun _ _ k => T_iconst (v := nI 0) d_Mo_begin_11 (by decide) k) ?_
  refine S_putfield (v' := va_up u1 73 (nI 0)) d_Mo_begin_12 (fp_Mo_344 _) (w373 _) (Nat.le_of_ble_eq_true rfl) ⟨rfl, rfl⟩ (u373_43 _ _) ?_
  have hv7 := hv2.up (j := 73) (c := 200) (k := 0) (by decide) (by omega)
  have hm8 := hm3.go (mdf.up (v := u1) (j := 73) (x := (nI 0))) (by intro i hi; simp only [List.mem_cons, List.not_mem_nil, or_false] at hi ⊢ <;> omega)
  have e_u6 : (va_up u1 73 (nI 0)) 73 = (nI 0) := by simp [va_up]
  have e9 : (va_up u1 73 (nI 0)) 67 = nI 0 := by simp only [va_up]; exact e4
  have e10 : (va_up u1 73 (nI 0)) 66 = nI 0 := by simp only [va_up]; exact e_u1
  generalize va_up u1 73 (nI 0) = u6 at hv7 hm8 e_u6 e9 e10 ⊢
  refine ST.lift (fun _ _ k => T_iload_n d_Mo_begin_15 rfl k) ?_
  refine S_static (as := [.int (nI 3)]) (rest := []) d_Mo_begin_16 rfl (jw_Mo_isSession.jo (by decide)) lm_Mo_545 jt_Mo_isSession rfl (Nat.le_of_ble_eq_true rfl) (by decide) (by decide) (c_Mo_isSession G u6 3 (by omega)) (fun r v' hq => ?_)
  rw [hq.1, hq.2]
  clear hq r v'
  show ST G mi_Mo_begin 19 [(3, .int (nI k5)), (0, .ref 373), (1, .int (nI 3)), (2, .int (nI usr))] [.int (nI 1)] u6 0 0 _
  refine S_if_eqN d_Mo_begin_19 rfl (by omega) (fun c => by first | exact absurd c (by omega) | exact c.elim | exact absurd c (by decide) | exact absurd (by assumption) c | exact absurd c (by assumption)) (fun _ => ?_)
  refine ST.lift (fun _ _ k => T_iload_n d_Mo_begin_22 rfl k) ?_
  refine S_if_ltN d_Mo_begin_23 rfl (by omega) (fun c => by first | exact absurd c (by omega) | exact c.elim | exact absurd c (by decide) | exact absurd (by assumption) c | exact absurd c (by assumption)) (fun _ => ?_)
  refine ST.lift (fun _ _ k => T_iload_n d_Mo_begin_26 rfl k) ?_
  refine ST.lift (fun _ _ k => T_bipush (v := nI 7) d_Mo_begin_27 (by decide) k) ?_
  refine S_icmp_leN d_Mo_begin_29 rfl (by omega) (by omega) (fun c11 => ?_) (fun c11 => ?_)
  · refine ST.lift (fun _ _ k => T_aload_n (v := .ref 373) d_Mo_begin_34 rfl (Or.inr ⟨_, rfl⟩) k) ?_
    refine S_getfield d_Mo_begin_35 fg_Mo_377 (w373 _) rfl ?_
    refine ST.lift (fun _ _ k => T_iload_n d_Mo_begin_38 rfl k) ?_
    refine ST.lift (fun _ _ k => T_iload_n d_Mo_begin_39 rfl k) ?_
    refine S_xstore (k := 3) (y := (nI usr)) (v' := va_up u6 91 (nI usr)) (Or.inl ⟨rfl, rfl, d_Mo_begin_40⟩) (by decide) rfl (w419 _) (by decide) (by decide) (x419_3 _ _) ?_
    have hv13 := hv7.up (j := 91) (c := 7) (k := usr) (by decide) (by omega)
    have hm14 := hm8.go (mdf.up (v := u6) (j := 91) (x := (nI usr))) (by intro i hi; simp only [List.mem_cons, List.not_mem_nil, or_false] at hi ⊢ <;> omega)
    have e_u12 : (va_up u6 91 (nI usr)) 91 = (nI usr) := by simp [va_up]
    have e15 : (va_up u6 91 (nI usr)) 67 = nI 0 := by simp only [va_up]; exact e9
    have e16 : (va_up u6 91 (nI usr)) 66 = nI 0 := by simp only [va_up]; exact e10
    have e17 : (va_up u6 91 (nI usr)) 73 = nI 0 := by simp only [va_up]; exact e_u6
    generalize va_up u6 91 (nI usr) = u12 at hv13 hm14 e_u12 e15 e16 e17 ⊢
    refine ST.lift (fun _ _ k => T_aload_n (v := .ref 373) d_Mo_begin_41 rfl (Or.inr ⟨_, rfl⟩) k) ?_
    refine S_getfield d_Mo_begin_42 fg_Mo_383 (w373 _) rfl ?_
    refine ST.lift (fun _ _ k => T_iload_n d_Mo_begin_45 rfl k) ?_
    refine ST.lift (fun _ _ k => T_iload_n d_Mo_begin_46 rfl k) ?_
    refine S_xstore (k := 3) (y := (nI k5)) (v' := va_up u12 95 (nI k5)) (Or.inl ⟨rfl, rfl, d_Mo_begin_47⟩) (by decide) rfl (w421 _) (by decide) (by decide) (x421_3 _ _) ?_
    have hv19 := hv13.up (j := 95) (c := 200) (k := k5) (by decide) (by omega)
    have hm20 := hm14.go (mdf.up (v := u12) (j := 95) (x := (nI k5))) (by intro i hi; simp only [List.mem_cons, List.not_mem_nil, or_false] at hi ⊢ <;> omega)
    have e_u18 : (va_up u12 95 (nI k5)) 95 = (nI k5) := by simp [va_up]
    have e21 : (va_up u12 95 (nI k5)) 67 = nI 0 := by simp only [va_up]; exact e15
    have e22 : (va_up u12 95 (nI k5)) 66 = nI 0 := by simp only [va_up]; exact e16
    have e23 : (va_up u12 95 (nI k5)) 73 = nI 0 := by simp only [va_up]; exact e17
    have e24 : (va_up u12 95 (nI k5)) 91 = nI usr := by simp only [va_up]; exact e_u12
    generalize va_up u12 95 (nI k5) = u18 at hv19 hm20 e_u18 e21 e22 e23 e24 ⊢
    refine ST.lift (fun _ _ k => T_iconst (v := nI 0) d_Mo_begin_48 (by decide) k) ?_
    refine ST.lift (fun _ _ k => T_istore (L' := [(4, .int (nI 0)), (3, .int (nI k5)), (0, .ref 373), (1, .int (nI 3)), (2, .int (nI usr))]) d_Mo_begin_49 (by decide) rfl k) ?_
    have lp28 : ∀ (n26 k25 : Nat), k5 - k25 = n26 → 0 ≤ k25 ∧ k25 ≤ 0 + k5 → ST G mi_Mo_begin 51 [(4, .int (nI k25)), (3, .int (nI k5)), (0, .ref 373), (1, .int (nI 3)), (2, .int (nI usr))] [] u18 0 0 Q := by
      intro n26
      induction n26 using Nat.strongRecOn with
      | _ n26 ih27 =>
        intro k25 h29 h30
        refine ST.lift (fun _ _ k => T_iload d_Mo_begin_51 rfl k) ?_
        refine ST.lift (fun _ _ k => T_iload_n d_Mo_begin_53 rfl k) ?_
        refine S_icmp_geN d_Mo_begin_54 rfl (by omega) (by omega) (fun c31 => ?_) (fun c31 => ?_)
        · refine ST.lift (fun _ _ k => T_aload_n (v := .ref 373) d_Mo_begin_83 rfl (Or.inr ⟨_, rfl⟩) k) ?_
          refine S_getfield d_Mo_begin_84 fg_Mo_395 (w373 _) rfl ?_
          refine ST.lift (fun _ _ k => T_iload_n d_Mo_begin_87 rfl k) ?_
          refine ST.lift (fun _ _ k => T_iconst (v := nI 0) d_Mo_begin_88 (by decide) k) ?_
          refine S_xstore (k := 3) (y := (nI 0)) (v' := va_up u18 103 (nI 0)) (Or.inr ⟨rfl, by decide, d_Mo_begin_89⟩) (by decide) rfl (w425 _) (by decide) (by decide) (x425_3 _ _) ?_
          have hv34 := hv19.off (j := 103) (x := (nI 0)) (by decide)
          have hm35 := hm20.go (mdf.up (v := u18) (j := 103) (x := (nI 0))) (by intro i hi; simp only [List.mem_cons, List.not_mem_nil, or_false] at hi ⊢ <;> omega)
          have e_u33 : (va_up u18 103 (nI 0)) 103 = (nI 0) := by simp [va_up]
          have e36 : (va_up u18 103 (nI 0)) 67 = nI 0 := by simp only [va_up]; exact e21
          have e37 : (va_up u18 103 (nI 0)) 66 = nI 0 := by simp only [va_up]; exact e22
          have e38 : (va_up u18 103 (nI 0)) 73 = nI 0 := by simp only [va_up]; exact e23
          have e39 : (va_up u18 103 (nI 0)) 91 = nI usr := by simp only [va_up]; exact e24
          have e40 : (va_up u18 103 (nI 0)) 95 = nI k5 := by simp only [va_up]; exact e_u18
          generalize va_up u18 103 (nI 0) = u33 at hv34 hm35 e_u33 e36 e37 e38 e39 e40 ⊢
          refine ST.lift (fun _ _ k => T_aload_n (v := .ref 373) d_Mo_begin_90 rfl (Or.inr ⟨_, rfl⟩) k) ?_
          refine S_getfield d_Mo_begin_91 fg_Mo_398 (w373 _) rfl ?_
          refine ST.lift (fun _ _ k => T_iload_n d_Mo_begin_94 rfl k) ?_
          refine ST.lift (fun _ _ k => T_iconst (v := nI 0) d_Mo_begin_95 (by decide) k) ?_
          refine S_xstore (k := 3) (y := (nI 0)) (v' := va_up u33 107 (nI 0)) (Or.inr ⟨rfl, by decide, d_Mo_begin_96⟩) (by decide) rfl (w426 _) (by decide) (by decide) (x426_3 _ _) ?_
          have hv42 := hv34.off (j := 107) (x := (nI 0)) (by decide)
          have hm43 := hm35.go (mdf.up (v := u33) (j := 107) (x := (nI 0))) (by intro i hi; simp only [List.mem_cons, List.not_mem_nil, or_false] at hi ⊢ <;> omega)
          have e_u41 : (va_up u33 107 (nI 0)) 107 = (nI 0) := by simp [va_up]
          have e44 : (va_up u33 107 (nI 0)) 67 = nI 0 := by simp only [va_up]; exact e36
          have e45 : (va_up u33 107 (nI 0)) 66 = nI 0 := by simp only [va_up]; exact e37
          have e46 : (va_up u33 107 (nI 0)) 73 = nI 0 := by simp only [va_up]; exact e38
          have e47 : (va_up u33 107 (nI 0)) 91 = nI usr := by simp only [va_up]; exact e39
          have e48 : (va_up u33 107 (nI 0)) 95 = nI k5 := by simp only [va_up]; exact e40
          have e49 : (va_up u33 107 (nI 0)) 103 = nI 0 := by simp only [va_up]; exact e_u33
          generalize va_up u33 107 (nI 0) = u41 at hv42 hm43 e_u41 e44 e45 e46 e47 e48 e49 ⊢
          refine ST.lift (fun _ _ k => T_aload_n (v := .ref 373) d_Mo_begin_97 rfl (Or.inr ⟨_, rfl⟩) k) ?_
          refine S_getfield d_Mo_begin_98 fg_Mo_401 (w373 _) rfl ?_
          refine ST.lift (fun _ _ k => T_iload_n d_Mo_begin_101 rfl k) ?_
          refine ST.lift (fun _ _ k => T_iconst (v := nI 0) d_Mo_begin_102 (by decide) k) ?_
          refine S_xstore (k := 3) (y := (nI 0)) (v' := va_up u41 111 (nI 0)) (Or.inr ⟨rfl, by decide, d_Mo_begin_103⟩) (by decide) rfl (w427 _) (by decide) (by decide) (x427_3 _ _) ?_
          have hv51 := hv42.off (j := 111) (x := (nI 0)) (by decide)
          have hm52 := hm43.go (mdf.up (v := u41) (j := 111) (x := (nI 0))) (by intro i hi; simp only [List.mem_cons, List.not_mem_nil, or_false] at hi ⊢ <;> omega)
          have e_u50 : (va_up u41 111 (nI 0)) 111 = (nI 0) := by simp [va_up]
          have e53 : (va_up u41 111 (nI 0)) 67 = nI 0 := by simp only [va_up]; exact e44
          have e54 : (va_up u41 111 (nI 0)) 66 = nI 0 := by simp only [va_up]; exact e45
          have e55 : (va_up u41 111 (nI 0)) 73 = nI 0 := by simp only [va_up]; exact e46
          have e56 : (va_up u41 111 (nI 0)) 91 = nI usr := by simp only [va_up]; exact e47
          have e57 : (va_up u41 111 (nI 0)) 95 = nI k5 := by simp only [va_up]; exact e48
          have e58 : (va_up u41 111 (nI 0)) 103 = nI 0 := by simp only [va_up]; exact e49
          have e59 : (va_up u41 111 (nI 0)) 107 = nI 0 := by simp only [va_up]; exact e_u41
          generalize va_up u41 111 (nI 0) = u50 at hv51 hm52 e_u50 e53 e54 e55 e56 e57 e58 e59 ⊢
          refine ST.lift (fun _ _ k => T_aload_n (v := .ref 373) d_Mo_begin_104 rfl (Or.inr ⟨_, rfl⟩) k) ?_
          refine S_getfield d_Mo_begin_105 fg_Mo_404 (w373 _) rfl ?_
          refine ST.lift (fun _ _ k => T_iload_n d_Mo_begin_108 rfl k) ?_
          refine ST.lift (fun _ _ k => T_iconst (v := nI 0) d_Mo_begin_109 (by decide) k) ?_
          refine S_xstore (k := 3) (y := (nI 0)) (v' := va_up u50 115 (nI 0)) (Or.inr ⟨rfl, by decide, d_Mo_begin_110⟩) (by decide) rfl (w428 _) (by decide) (by decide) (x428_3 _ _) ?_
          have hv61 := hv51.off (j := 115) (x := (nI 0)) (by decide)
          have hm62 := hm52.go (mdf.up (v := u50) (j := 115) (x := (nI 0))) (by intro i hi; simp only [List.mem_cons, List.not_mem_nil, or_false] at hi ⊢ <;> omega)
          have e_u60 : (va_up u50 115 (nI 0)) 115 = (nI 0) := by simp [va_up]
          have e63 : (va_up u50 115 (nI 0)) 67 = nI 0 := by simp only [va_up]; exact e53
          have e64 : (va_up u50 115 (nI 0)) 66 = nI 0 := by simp only [va_up]; exact e54
          have e65 : (va_up u50 115 (nI 0)) 73 = nI 0 := by simp only [va_up]; exact e55
          have e66 : (va_up u50 115 (nI 0)) 91 = nI usr := by simp only [va_up]; exact e56
          have e67 : (va_up u50 115 (nI 0)) 95 = nI k5 := by simp only [va_up]; exact e57
          have e68 : (va_up u50 115 (nI 0)) 103 = nI 0 := by simp only [va_up]; exact e58
          have e69 : (va_up u50 115 (nI 0)) 107 = nI 0 := by simp only [va_up]; exact e59
          have e70 : (va_up u50 115 (nI 0)) 111 = nI 0 := by simp only [va_up]; exact e_u50
          generalize va_up u50 115 (nI 0) = u60 at hv61 hm62 e_u60 e63 e64 e65 e66 e67 e68 e69 e70 ⊢
          refine ST.lift (fun _ _ k => T_aload_n (v := .ref 373) d_Mo_begin_111 rfl (Or.inr ⟨_, rfl⟩) k) ?_
          refine S_getfield d_Mo_begin_112 fg_Mo_407 (w373 _) rfl ?_
          refine ST.lift (fun _ _ k => T_iload_n d_Mo_begin_115 rfl k) ?_
          refine ST.lift (fun _ _ k => T_iconst (v := nI 0) d_Mo_begin_116 (by decide) k) ?_
          refine S_xstore (k := 3) (y := (nI 0)) (v' := va_up u60 119 (nI 0)) (Or.inr ⟨rfl, by decide, d_Mo_begin_117⟩) (by decide) rfl (w429 _) (by decide) (by decide) (x429_3 _ _) ?_
          have hv72 := hv61.off (j := 119) (x := (nI 0)) (by decide)
          have hm73 := hm62.go (mdf.up (v := u60) (j := 119) (x := (nI 0))) (by intro i hi; simp only [List.mem_cons, List.not_mem_nil, or_false] at hi ⊢ <;> omega)
          have e_u71 : (va_up u60 119 (nI 0)) 119 = (nI 0) := by simp [va_up]
          have e74 : (va_up u60 119 (nI 0)) 67 = nI 0 := by simp only [va_up]; exact e63
          have e75 : (va_up u60 119 (nI 0)) 66 = nI 0 := by simp only [va_up]; exact e64
          have e76 : (va_up u60 119 (nI 0)) 73 = nI 0 := by simp only [va_up]; exact e65
          have e77 : (va_up u60 119 (nI 0)) 91 = nI usr := by simp only [va_up]; exact e66
          have e78 : (va_up u60 119 (nI 0)) 95 = nI k5 := by simp only [va_up]; exact e67
          have e79 : (va_up u60 119 (nI 0)) 103 = nI 0 := by simp only [va_up]; exact e68
          have e80 : (va_up u60 119 (nI 0)) 107 = nI 0 := by simp only [va_up]; exact e69
          have e81 : (va_up u60 119 (nI 0)) 111 = nI 0 := by simp only [va_up]; exact e70
          have e82 : (va_up u60 119 (nI 0)) 115 = nI 0 := by simp only [va_up]; exact e_u60
          generalize va_up u60 119 (nI 0) = u71 at hv72 hm73 e_u71 e74 e75 e76 e77 e78 e79 e80 e81 e82 ⊢
          refine ST.lift (fun _ _ k => T_aload_n (v := .ref 373) d_Mo_begin_118 rfl (Or.inr ⟨_, rfl⟩) k) ?_
          refine S_getfield d_Mo_begin_119 fg_Mo_410 (w373 _) rfl ?_
          refine ST.lift (fun _ _ k => T_iload_n d_Mo_begin_122 rfl k) ?_
          refine ST.lift (fun _ _ k => T_iconst (v := nI 0) d_Mo_begin_123 (by decide) k) ?_
          refine S_xstore (k := 3) (y := (nI 0)) (v' := va_up u71 123 (nI 0)) (Or.inr ⟨rfl, by decide, d_Mo_begin_124⟩) (by decide) rfl (w430 _) (by decide) (by decide) (x430_3 _ _) ?_
          have hv84 := hv72.off (j := 123) (x := (nI 0)) (by decide)
          have hm85 := hm73.go (mdf.up (v := u71) (j := 123) (x := (nI 0))) (by intro i hi; simp only [List.mem_cons, List.not_mem_nil, or_false] at hi ⊢ <;> omega)
          have e_u83 : (va_up u71 123 (nI 0)) 123 = (nI 0) := by simp [va_up]
          have e86 : (va_up u71 123 (nI 0)) 67 = nI 0 := by simp only [va_up]; exact e74
          have e87 : (va_up u71 123 (nI 0)) 66 = nI 0 := by simp only [va_up]; exact e75
          have e88 : (va_up u71 123 (nI 0)) 73 = nI 0 := by simp only [va_up]; exact e76
          have e89 : (va_up u71 123 (nI 0)) 91 = nI usr := by simp only [va_up]; exact e77
          have e90 : (va_up u71 123 (nI 0)) 95 = nI k5 := by simp only [va_up]; exact e78
          have e91 : (va_up u71 123 (nI 0)) 103 = nI 0 := by simp only [va_up]; exact e79
          have e92 : (va_up u71 123 (nI 0)) 107 = nI 0 := by simp only [va_up]; exact e80
          have e93 : (va_up u71 123 (nI 0)) 111 = nI 0 := by simp only [va_up]; exact e81
          have e94 : (va_up u71 123 (nI 0)) 115 = nI 0 := by simp only [va_up]; exact e82
          have e95 : (va_up u71 123 (nI 0)) 119 = nI 0 := by simp only [va_up]; exact e_u71
          generalize va_up u71 123 (nI 0) = u83 at hv84 hm85 e_u83 e86 e87 e88 e89 e90 e91 e92 e93 e94 e95 ⊢
          refine ST.lift (fun _ _ k => T_aload_n (v := .ref 373) d_Mo_begin_125 rfl (Or.inr ⟨_, rfl⟩) k) ?_
          refine S_getfield d_Mo_begin_126 fg_Mo_413 (w373 _) rfl ?_
          refine ST.lift (fun _ _ k => T_iload_n d_Mo_begin_129 rfl k) ?_
          refine ST.lift (fun _ _ k => T_iconst (v := nI 0) d_Mo_begin_130 (by decide) k) ?_
          refine S_xstore (k := 3) (y := (nI 0)) (v' := va_up u83 127 (nI 0)) (Or.inr ⟨rfl, by decide, d_Mo_begin_131⟩) (by decide) rfl (w431 _) (by decide) (by decide) (x431_3 _ _) ?_
          have hv97 := hv84.off (j := 127) (x := (nI 0)) (by decide)
          have hm98 := hm85.go (mdf.up (v := u83) (j := 127) (x := (nI 0))) (by intro i hi; simp only [List.mem_cons, List.not_mem_nil, or_false] at hi ⊢ <;> omega)
          have e_u96 : (va_up u83 127 (nI 0)) 127 = (nI 0) := by simp [va_up]
          have e99 : (va_up u83 127 (nI 0)) 67 = nI 0 := by simp only [va_up]; exact e86
          have e100 : (va_up u83 127 (nI 0)) 66 = nI 0 := by simp only [va_up]; exact e87
          have e101 : (va_up u83 127 (nI 0)) 73 = nI 0 := by simp only [va_up]; exact e88
          have e102 : (va_up u83 127 (nI 0)) 91 = nI usr := by simp only [va_up]; exact e89
          have e103 : (va_up u83 127 (nI 0)) 95 = nI k5 := by simp only [va_up]; exact e90
          have e104 : (va_up u83 127 (nI 0)) 103 = nI 0 := by simp only [va_up]; exact e91
          have e105 : (va_up u83 127 (nI 0)) 107 = nI 0 := by simp only [va_up]; exact e92
          have e106 : (va_up u83 127 (nI 0)) 111 = nI 0 := by simp only [va_up]; exact e93
          have e107 : (va_up u83 127 (nI 0)) 115 = nI 0 := by simp only [va_up]; exact e94
          have e108 : (va_up u83 127 (nI 0)) 119 = nI 0 := by simp only [va_up]; exact e95
          have e109 : (va_up u83 127 (nI 0)) 123 = nI 0 := by simp only [va_up]; exact e_u83
          generalize va_up u83 127 (nI 0) = u96 at hv97 hm98 e_u96 e99 e100 e101 e102 e103 e104 e105 e106 e107 e108 e109 ⊢
          refine ST.lift (fun _ _ k => T_aload_n (v := .ref 373) d_Mo_begin_132 rfl (Or.inr ⟨_, rfl⟩) k) ?_
          refine S_getfield d_Mo_begin_133 fg_Mo_392 (w373 _) rfl ?_
          refine ST.lift (fun _ _ k => T_iload_n d_Mo_begin_136 rfl k) ?_
          refine ST.lift (fun _ _ k => T_iconst (v := nI 1) d_Mo_begin_137 (by decide) k) ?_
          refine S_xstore (k := 3) (y := (nI 1)) (v' := va_up u96 99 (nI 1)) (Or.inr ⟨rfl, by decide, d_Mo_begin_138⟩) (by decide) rfl (w424 _) (by decide) (by decide) (x424_3 _ _) ?_
          have hv111 := hv97.off (j := 99) (x := (nI 1)) (by decide)
          have hm112 := hm98.go (mdf.up (v := u96) (j := 99) (x := (nI 1))) (by intro i hi; simp only [List.mem_cons, List.not_mem_nil, or_false] at hi ⊢ <;> omega)
          have e_u110 : (va_up u96 99 (nI 1)) 99 = (nI 1) := by simp [va_up]
          have e113 : (va_up u96 99 (nI 1)) 67 = nI 0 := by simp only [va_up]; exact e99
          have e114 : (va_up u96 99 (nI 1)) 66 = nI 0 := by simp only [va_up]; exact e100
          have e115 : (va_up u96 99 (nI 1)) 73 = nI 0 := by simp only [va_up]; exact e101
          have e116 : (va_up u96 99 (nI 1)) 91 = nI usr := by simp only [va_up]; exact e102
          have e117 : (va_up u96 99 (nI 1)) 95 = nI k5 := by simp only [va_up]; exact e103
          have e118 : (va_up u96 99 (nI 1)) 103 = nI 0 := by simp only [va_up]; exact e104
          have e119 : (va_up u96 99 (nI 1)) 107 = nI 0 := by simp only [va_up]; exact e105
          have e120 : (va_up u96 99 (nI 1)) 111 = nI 0 := by simp only [va_up]; exact e106
          have e121 : (va_up u96 99 (nI 1)) 115 = nI 0 := by simp only [va_up]; exact e107
          have e122 : (va_up u96 99 (nI 1)) 119 = nI 0 := by simp only [va_up]; exact e108
          have e123 : (va_up u96 99 (nI 1)) 123 = nI 0 := by simp only [va_up]; exact e109
          have e124 : (va_up u96 99 (nI 1)) 127 = nI 0 := by simp only [va_up]; exact e_u96
          generalize va_up u96 99 (nI 1) = u110 at hv111 hm112 e_u110 e113 e114 e115 e116 e117 e118 e119 e120 e121 e122 e123 e124 ⊢
          refine ST.lift (fun _ _ k => T_aload_n (v := .ref 373) d_Mo_begin_139 rfl (Or.inr ⟨_, rfl⟩) k) ?_
          refine S_virtual (as := []) (rest := []) (b := 373) d_Mo_begin_140 rfl (jw_Mo_chanceScalar.jo (by decide)) lm_Mo_548 ji_Mo_chanceScalar js_Mo_chanceScalar (w373 _) rfl rfl rfl (Nat.le_of_ble_eq_true rfl) (by decide) (by decide) (c_Mo_chanceScalar G u110 0 e113 (by omega) hv111) (fun r u125 hq => ?_)
          obtain ⟨hr, hv126, hm127, es_u125⟩ := hq
          rw [hr]
          clear hr r
          have hm129 := hm112.go hm127 (by intro i hi; simp only [List.mem_cons, List.not_mem_nil, or_false] at hi ⊢ <;> omega)
          have e130 : u125 66 = nI 0 := (hm127 66 (by decide)).trans e114
          have e131 : u125 73 = nI 0 := (hm127 73 (by decide)).trans e115
          have e132 : u125 91 = nI usr := (hm127 91 (by decide)).trans e116
          have e133 : u125 95 = nI k5 := (hm127 95 (by decide)).trans e117
          have e134 : u125 103 = nI 0 := (hm127 103 (by decide)).trans e118
          have e135 : u125 107 = nI 0 := (hm127 107 (by decide)).trans e119
          have e136 : u125 111 = nI 0 := (hm127 111 (by decide)).trans e120
          have e137 : u125 115 = nI 0 := (hm127 115 (by decide)).trans e121
          have e138 : u125 119 = nI 0 := (hm127 119 (by decide)).trans e122
          have e139 : u125 123 = nI 0 := (hm127 123 (by decide)).trans e123
          have e140 : u125 127 = nI 0 := (hm127 127 (by decide)).trans e124
          have e141 : u125 99 = nI 1 := (hm127 99 (by decide)).trans e_u110
          show ST G mi_Mo_begin 143 [(4, .int (nI k25)), (3, .int (nI k5)), (0, .ref 373), (1, .int (nI 3)), (2, .int (nI usr))] [] u125 0 0 _
          refine ST.lift (fun _ _ k => T_aload_n (v := .ref 373) d_Mo_begin_143 rfl (Or.inr ⟨_, rfl⟩) k) ?_
          refine ST.lift (fun _ _ k => T_aload_n (v := .ref 373) d_Mo_begin_144 rfl (Or.inr ⟨_, rfl⟩) k) ?_
          refine S_getfield d_Mo_begin_145 fg_Mo_386 (w373 _) rfl ?_
          refine ST.lift (fun _ _ k => T_bipush (v := nI 16) d_Mo_begin_148 (by decide) k) ?_
          refine ST.lift (fun _ _ k => T_iload_n d_Mo_begin_150 rfl k) ?_
          refine S_imulN d_Mo_begin_151 ?_
          refine S_topi (y := nI 48) (by decide) ?_
          refine S_virtual (as := [.ref 422, .int (nI 48)]) (rest := []) (b := 373) d_Mo_begin_152 rfl (jw_Mo_putScalar.jo (by decide)) lm_Mo_489 ji_Mo_putScalar js_Mo_putScalar (w373 _) rfl rfl rfl (Nat.le_of_ble_eq_true rfl) (by decide) (by decide) (c_Mo_putScalar G u125 422 64 (by decide) a422 (by omega) 48 (by omega)) (fun r v' hq => ?_)
          rw [hq.1, hq.2]
          clear hq r v'
          show ST G mi_Mo_begin 155 [(4, .int (nI k25)), (3, .int (nI k5)), (0, .ref 373), (1, .int (nI 3)), (2, .int (nI usr))] [] u125 0 0 _
          refine ST.lift (fun _ _ k => T_aload_n (v := .ref 373) d_Mo_begin_155 rfl (Or.inr ⟨_, rfl⟩) k) ?_
          refine ST.lift (fun _ _ k => T_bipush (v := nI 12) d_Mo_begin_156 (by decide) k) ?_
          refine ST.lift (fun _ _ k => T_aload_n (v := .ref 373) d_Mo_begin_158 rfl (Or.inr ⟨_, rfl⟩) k) ?_
          refine S_getfield d_Mo_begin_159 fg_Mo_341 (w373 _) rfl ?_
          refine ST.lift (fun _ _ k => T_iload_n d_Mo_begin_162 rfl k) ?_
          refine S_virtual (as := [.int (nI 12), .ref 409, .int (nI k5)]) (rest := []) (b := 373) d_Mo_begin_163 rfl (jw_Mo_groupPoint.jo (by decide)) lm_Mo_495 ji_Mo_groupPoint js_Mo_groupPoint (w373 _) rfl rfl rfl (Nat.le_of_ble_eq_true rfl) (by decide) (by decide) (c_Mo_groupPoint G u125 12 (by omega) 409 200 (by decide) a409 (by omega) k5 (by omega) 0 es_u125 (by omega) hv126) (fun r u142 hq => ?_)
          obtain ⟨hr, hv143, hm144, es_u142⟩ := hq
          rw [hr]
          clear hr r
          have hm146 := hm129.go hm144 (by intro i hi; simp only [List.mem_cons, List.not_mem_nil, or_false] at hi ⊢ <;> omega)
          have e147 : u142 66 = nI 0 := (hm144 66 (by decide)).trans e130
          have e148 : u142 73 = nI 0 := (hm144 73 (by decide)).trans e131
          have e149 : u142 91 = nI usr := (hm144 91 (by decide)).trans e132
          have e150 : u142 95 = nI k5 := (hm144 95 (by decide)).trans e133
          have e151 : u142 103 = nI 0 := (hm144 103 (by decide)).trans e134
          have e152 : u142 107 = nI 0 := (hm144 107 (by decide)).trans e135
          have e153 : u142 111 = nI 0 := (hm144 111 (by decide)).trans e136
          have e154 : u142 115 = nI 0 := (hm144 115 (by decide)).trans e137
          have e155 : u142 119 = nI 0 := (hm144 119 (by decide)).trans e138
          have e156 : u142 123 = nI 0 := (hm144 123 (by decide)).trans e139
          have e157 : u142 127 = nI 0 := (hm144 127 (by decide)).trans e140
          have e158 : u142 99 = nI 1 := (hm144 99 (by decide)).trans e141
          show ST G mi_Mo_begin 166 [(4, .int (nI k25)), (3, .int (nI k5)), (0, .ref 373), (1, .int (nI 3)), (2, .int (nI usr))] [] u142 0 0 _
          refine ST.lift (fun _ _ k => T_aload_n (v := .ref 373) d_Mo_begin_166 rfl (Or.inr ⟨_, rfl⟩) k) ?_
          refine ST.lift (fun _ _ k => T_aload_n (v := .ref 373) d_Mo_begin_167 rfl (Or.inr ⟨_, rfl⟩) k) ?_
          refine S_getfield d_Mo_begin_168 fg_Mo_386 (w373 _) rfl ?_
          refine ST.lift (fun _ _ k => T_bipush (v := nI 16) d_Mo_begin_171 (by decide) k) ?_
          refine ST.lift (fun _ _ k => T_iload_n d_Mo_begin_173 rfl k) ?_
          refine S_imulN d_Mo_begin_174 ?_
          refine S_topi (y := nI 48) (by decide) ?_
          refine S_virtual (as := [.ref 422, .int (nI 48)]) (rest := []) (b := 373) d_Mo_begin_175 rfl (jw_Mo_takeScalar.jo (by decide)) lm_Mo_533 ji_Mo_takeScalar js_Mo_takeScalar (w373 _) rfl rfl rfl (Nat.le_of_ble_eq_true rfl) (by decide) (by decide) (c_Mo_takeScalar G u142 422 64 (by decide) a422 (by omega) 48 (by omega)) (fun r v' hq => ?_)
          rw [hq.1, hq.2]
          clear hq r v'
          show ST G mi_Mo_begin 178 [(4, .int (nI k25)), (3, .int (nI k5)), (0, .ref 373), (1, .int (nI 3)), (2, .int (nI usr))] [] u142 0 0 _
          refine ST.lift (fun _ _ k => T_aload_n (v := .ref 373) d_Mo_begin_178 rfl (Or.inr ⟨_, rfl⟩) k) ?_
          refine ST.lift (fun _ _ k => T_bipush (v := nI 12) d_Mo_begin_179 (by decide) k) ?_
          refine ST.lift (fun _ _ k => T_bipush (v := nI 12) d_Mo_begin_181 (by decide) k) ?_
          refine S_virtual (as := [.int (nI 12), .int (nI 12)]) (rest := []) (b := 373) d_Mo_begin_183 rfl (jw_Mo_timesPoint.jo (by decide)) lm_Mo_290 ji_Mo_timesPoint js_Mo_timesPoint (w373 _) rfl rfl rfl (Nat.le_of_ble_eq_true rfl) (by decide) (by decide) (c_Mo_timesPoint G u142 12 (by omega) 12 (by omega)) (fun r v' hq => ?_)
          rw [hq.1, hq.2]
          clear hq r v'
          show ST G mi_Mo_begin 186 [(4, .int (nI k25)), (3, .int (nI k5)), (0, .ref 373), (1, .int (nI 3)), (2, .int (nI usr))] [] u142 0 0 _
          refine ST.lift (fun _ _ k => T_aload_n (v := .ref 373) d_Mo_begin_186 rfl (Or.inr ⟨_, rfl⟩) k) ?_
          refine ST.lift (fun _ _ k => T_bipush (v := nI 12) d_Mo_begin_187 (by decide) k) ?_
          refine S_virtual (as := [.int (nI 12)]) (rest := []) (b := 373) d_Mo_begin_189 rfl (jw_Mo_code.jo (by decide)) lm_Mo_293 ji_Mo_code js_Mo_code (w373 _) rfl rfl rfl (Nat.le_of_ble_eq_true rfl) (by decide) (by decide) (c_Mo_code G u142 12 (by omega)) (fun r v' hq => ?_)
          rw [hq.1, hq.2]
          clear hq r v'
          show ST G mi_Mo_begin 192 [(4, .int (nI k25)), (3, .int (nI k5)), (0, .ref 373), (1, .int (nI 3)), (2, .int (nI usr))] [] u142 0 0 _
          refine ST.lift (fun _ _ k => T_iconst (v := nI 0) d_Mo_begin_192 (by decide) k) ?_
          refine ST.lift (fun _ _ k => T_istore (L' := [(4, .int (nI 0)), (3, .int (nI k5)), (0, .ref 373), (1, .int (nI 3)), (2, .int (nI usr))]) d_Mo_begin_193 (by decide) rfl k) ?_
          have lp162 : ∀ (n160 k159 : Nat), 32 - k159 = n160 → 0 ≤ k159 ∧ k159 ≤ 0 + 32 → ST G mi_Mo_begin 195 [(4, .int (nI k159)), (3, .int (nI k5)), (0, .ref 373), (1, .int (nI 3)), (2, .int (nI usr))] [] u142 0 0 Q := by
            intro n160
            induction n160 using Nat.strongRecOn with
            | _ n160 ih161 =>
              intro k159 h163 h164
              refine ST.lift (fun _ _ k => T_iload d_Mo_begin_195 rfl k) ?_
              refine ST.lift (fun _ _ k => T_bipush (v := nI 32) d_Mo_begin_197 (by decide) k) ?_
              refine S_icmp_geN d_Mo_begin_199 rfl (by omega) (by omega) (fun c165 => ?_) (fun c165 => ?_)
              · refine ST.lift (fun _ _ k => T_aload_n (v := .ref 373) d_Mo_begin_227 rfl (Or.inr ⟨_, rfl⟩) k) ?_
                refine S_virtual (as := []) (rest := []) (b := 373) d_Mo_begin_228 rfl (jw_Mo_chance.jo (by decide)) lm_Mo_304 ji_Mo_chance js_Mo_chance (w373 _) rfl rfl rfl (Nat.le_of_ble_eq_true rfl) (by decide) (by decide) (c_Mo_chance G u142 0 es_u142 (by omega) hv143) (fun r u167 hq => ?_)
                obtain ⟨hr, hv168, hm169, es_u167⟩ := hq
                rw [hr]
                clear hr r
                have hm171 := hm146.go hm169 (by intro i hi; simp only [List.mem_cons, List.not_mem_nil, or_false] at hi ⊢ <;> omega)
                have e172 : u167 66 = nI 0 := (hm169 66 (by decide)).trans e147
                have e173 : u167 73 = nI 0 := (hm169 73 (by decide)).trans e148
                have e174 : u167 91 = nI usr := (hm169 91 (by decide)).trans e149
                have e175 : u167 95 = nI k5 := (hm169 95 (by decide)).trans e150
                have e176 : u167 103 = nI 0 := (hm169 103 (by decide)).trans e151
                have e177 : u167 107 = nI 0 := (hm169 107 (by decide)).trans e152
                have e178 : u167 111 = nI 0 := (hm169 111 (by decide)).trans e153
                have e179 : u167 115 = nI 0 := (hm169 115 (by decide)).trans e154
                have e180 : u167 119 = nI 0 := (hm169 119 (by decide)).trans e155
                have e181 : u167 123 = nI 0 := (hm169 123 (by decide)).trans e156
                have e182 : u167 127 = nI 0 := (hm169 127 (by decide)).trans e157
                have e183 : u167 99 = nI 1 := (hm169 99 (by decide)).trans e158
                show ST G mi_Mo_begin 231 [(4, .int (nI k159)), (3, .int (nI k5)), (0, .ref 373), (1, .int (nI 3)), (2, .int (nI usr))] [] u167 0 0 _
                refine ST.lift (fun _ _ k => T_iconst (v := nI 0) d_Mo_begin_231 (by decide) k) ?_
                refine ST.lift (fun _ _ k => T_istore (L' := [(4, .int (nI 0)), (3, .int (nI k5)), (0, .ref 373), (1, .int (nI 3)), (2, .int (nI usr))]) d_Mo_begin_232 (by decide) rfl k) ?_
                have lp187 : ∀ (n185 k184 : Nat), 32 - k184 = n185 → 0 ≤ k184 ∧ k184 ≤ 0 + 32 → ST G mi_Mo_begin 234 [(4, .int (nI k184)), (3, .int (nI k5)), (0, .ref 373), (1, .int (nI 3)), (2, .int (nI usr))] [] u167 0 0 Q := by
                  intro n185
                  induction n185 using Nat.strongRecOn with
                  | _ n185 ih186 =>
                    intro k184 h188 h189
                    refine ST.lift (fun _ _ k => T_iload d_Mo_begin_234 rfl k) ?_
                    refine ST.lift (fun _ _ k => T_bipush (v := nI 32) d_Mo_begin_236 (by decide) k) ?_
                    refine S_icmp_geN d_Mo_begin_238 rfl (by omega) (by omega) (fun c190 => ?_) (fun c190 => ?_)
                    · refine ST.lift (fun _ _ k => T_aload_n (v := .ref 373) d_Mo_begin_269 rfl (Or.inr ⟨_, rfl⟩) k) ?_
                      refine S_virtual (as := []) (rest := []) (b := 373) d_Mo_begin_270 rfl (jw_Mo_chanceScalar.jo (by decide)) lm_Mo_548 ji_Mo_chanceScalar js_Mo_chanceScalar (w373 _) rfl rfl rfl (Nat.le_of_ble_eq_true rfl) (by decide) (by decide) (c_Mo_chanceScalar G u167 0 es_u167 (by omega) hv168) (fun r u192 hq => ?_)
                      obtain ⟨hr, hv193, hm194, es_u192⟩ := hq
                      rw [hr]
                      clear hr r
                      have hm196 := hm171.go hm194 (by intro i hi; simp only [List.mem_cons, List.not_mem_nil, or_false] at hi ⊢ <;> omega)
                      have e197 : u192 66 = nI 0 := (hm194 66 (by decide)).trans e172
                      have e198 : u192 73 = nI 0 := (hm194 73 (by decide)).trans e173
                      have e199 : u192 91 = nI usr := (hm194 91 (by decide)).trans e174
                      have e200 : u192 95 = nI k5 := (hm194 95 (by decide)).trans e175
                      have e201 : u192 103 = nI 0 := (hm194 103 (by decide)).trans e176
                      have e202 : u192 107 = nI 0 := (hm194 107 (by decide)).trans e177
                      have e203 : u192 111 = nI 0 := (hm194 111 (by decide)).trans e178
                      have e204 : u192 115 = nI 0 := (hm194 115 (by decide)).trans e179
                      have e205 : u192 119 = nI 0 := (hm194 119 (by decide)).trans e180
                      have e206 : u192 123 = nI 0 := (hm194 123 (by decide)).trans e181
                      have e207 : u192 127 = nI 0 := (hm194 127 (by decide)).trans e182
                      have e208 : u192 99 = nI 1 := (hm194 99 (by decide)).trans e183
                      show ST G mi_Mo_begin 273 [(4, .int (nI k184)), (3, .int (nI k5)), (0, .ref 373), (1, .int (nI 3)), (2, .int (nI usr))] [] u192 0 0 _
                      refine ST.lift (fun _ _ k => T_aload_n (v := .ref 373) d_Mo_begin_273 rfl (Or.inr ⟨_, rfl⟩) k) ?_
                      refine ST.lift (fun _ _ k => T_aload_n (v := .ref 373) d_Mo_begin_274 rfl (Or.inr ⟨_, rfl⟩) k) ?_
                      refine S_getfield d_Mo_begin_275 fg_Mo_389 (w373 _) rfl ?_
                      refine ST.lift (fun _ _ k => T_bipush (v := nI 16) d_Mo_begin_278 (by decide) k) ?_
                      refine ST.lift (fun _ _ k => T_iload_n d_Mo_begin_280 rfl k) ?_
                      refine S_imulN d_Mo_begin_281 ?_
                      refine S_topi (y := nI 48) (by decide) ?_
                      refine S_virtual (as := [.ref 423, .int (nI 48)]) (rest := []) (b := 373) d_Mo_begin_282 rfl (jw_Mo_putScalar.jo (by decide)) lm_Mo_489 ji_Mo_putScalar js_Mo_putScalar (w373 _) rfl rfl rfl (Nat.le_of_ble_eq_true rfl) (by decide) (by decide) (c_Mo_putScalar G u192 423 64 (by decide) a423 (by omega) 48 (by omega)) (fun r v' hq => ?_)
                      rw [hq.1, hq.2]
                      clear hq r v'
                      show ST G mi_Mo_begin 285 [(4, .int (nI k184)), (3, .int (nI k5)), (0, .ref 373), (1, .int (nI 3)), (2, .int (nI usr))] [] u192 0 0 _
                      refine ST.lift (fun _ _ k => T_aload_n (v := .ref 373) d_Mo_begin_285 rfl (Or.inr ⟨_, rfl⟩) k) ?_
                      refine ST.lift (fun _ _ k => T_aload_n (v := .ref 373) d_Mo_begin_286 rfl (Or.inr ⟨_, rfl⟩) k) ?_
                      refine S_getfield d_Mo_begin_287 fg_Mo_416 (w373 _) rfl ?_
                      refine ST.lift (fun _ _ k => T_bipush (v := nI 96) d_Mo_begin_290 (by decide) k) ?_
                      refine ST.lift (fun _ _ k => T_iload_n d_Mo_begin_292 rfl k) ?_
                      refine S_imulN d_Mo_begin_293 ?_
                      refine S_topi (y := nI 288) (by decide) ?_
                      refine ST.lift (fun _ _ k => T_bipush (v := nI 64) d_Mo_begin_294 (by decide) k) ?_
                      refine S_iaddN d_Mo_begin_296 ?_
                      refine S_topi (y := nI 352) (by decide) ?_
                      refine S_virtual (as := [.ref 432, .int (nI 352)]) (rest := []) (b := 373) d_Mo_begin_297 rfl (jw_Mo_publicTo.jo (by decide)) lm_Mo_492 ji_Mo_publicTo js_Mo_publicTo (w373 _) rfl rfl rfl (Nat.le_of_ble_eq_true rfl) (by decide) (by decide) (c_Mo_publicTo G u192 432 384 (by decide) a432 (by omega) 352 (by omega)) (fun r v' hq => ?_)
                      rw [hq.1, hq.2]
                      clear hq r v'
                      show ST G mi_Mo_begin 300 [(4, .int (nI k184)), (3, .int (nI k5)), (0, .ref 373), (1, .int (nI 3)), (2, .int (nI usr))] [] u192 0 0 _
                      refine ST.lift (fun _ _ k => T_iconst (v := nI 0) d_Mo_begin_300 (by decide) k) ?_
                      refine ST.lift (fun _ _ k => T_istore (L' := [(4, .int (nI 0)), (3, .int (nI k5)), (0, .ref 373), (1, .int (nI 3)), (2, .int (nI usr))]) d_Mo_begin_301 (by decide) rfl k) ?_
                      have lp212 : ∀ (n210 k209 : Nat), 96 - k209 = n210 → 0 ≤ k209 ∧ k209 ≤ 0 + 96 → ST G mi_Mo_begin 303 [(4, .int (nI k209)), (3, .int (nI k5)), (0, .ref 373), (1, .int (nI 3)), (2, .int (nI usr))] [] u192 0 0 Q := by
                        intro n210
                        induction n210 using Nat.strongRecOn with
                        | _ n210 ih211 =>
                          intro k209 h213 h214
                          refine ST.lift (fun _ _ k => T_iload d_Mo_begin_303 rfl k) ?_
                          refine ST.lift (fun _ _ k => T_bipush (v := nI 96) d_Mo_begin_305 (by decide) k) ?_
                          refine S_icmp_geN d_Mo_begin_307 rfl (by omega) (by omega) (fun c215 => ?_) (fun c215 => ?_)
                          · refine ST.lift (fun _ _ k => T_iconst (v := nI 0) d_Mo_begin_340 (by decide) k) ?_
                            refine S_topi (y := nI 0) (congrArg nI (by omega)) ?_
                            exact S_ret d_Mo_begin_341 rfl rfl (by decide) (by decide) (hQ _ hv193 hm196 (es_u192.trans (congrArg nI (by omega))) (e198.trans (congrArg nI (by omega))))
                          · refine ST.lift (fun _ _ k => T_aload_n (v := .ref 373) d_Mo_begin_310 rfl (Or.inr ⟨_, rfl⟩) k) ?_
                            refine S_getfield d_Mo_begin_311 fg_Mo_419 (w373 _) rfl ?_
                            refine ST.lift (fun _ _ k => T_bipush (v := nI 96) d_Mo_begin_314 (by decide) k) ?_
                            refine ST.lift (fun _ _ k => T_iload_n d_Mo_begin_316 rfl k) ?_
                            refine S_imulN d_Mo_begin_317 ?_
                            refine S_topi (y := nI 288) (by decide) ?_
                            refine ST.lift (fun _ _ k => T_iload d_Mo_begin_318 rfl k) ?_
                            refine S_iaddN d_Mo_begin_320 ?_
                            refine ST.lift (fun _ _ k => T_aload_n (v := .ref 373) d_Mo_begin_321 rfl (Or.inr ⟨_, rfl⟩) k) ?_
                            refine S_getfield d_Mo_begin_322 fg_Mo_416 (w373 _) rfl ?_
                            refine ST.lift (fun _ _ k => T_bipush (v := nI 96) d_Mo_begin_325 (by decide) k) ?_
                            refine ST.lift (fun _ _ k => T_iload_n d_Mo_begin_327 rfl k) ?_
                            refine S_imulN d_Mo_begin_328 ?_
                            refine S_topi (y := nI 288) (by decide) ?_
                            refine ST.lift (fun _ _ k => T_iload d_Mo_begin_329 rfl k) ?_
                            refine S_iaddN d_Mo_begin_331 ?_
                            refine S_iaload d_Mo_begin_332 a432 (vp_in_nI (by omega) (by omega)) (fun z217 => ?_)
                            refine S_iastore d_Mo_begin_333 (by decide) a433 (vp_in_nI (by omega) (by omega)) ?_
                            refine S_iincN (a := k209) (b := 1) (L' := [(4, .int (nI (k209 + 1))), (3, .int (nI k5)), (0, .ref 373), (1, .int (nI 3)), (2, .int (nI usr))]) d_Mo_begin_334 (by decide) rfl rfl rfl ?_
                            refine ST.lift (fun _ _ k => T_goto (tgt := 303) d_Mo_begin_337 rfl k) ?_
                            exact ih211 (96 - (k209 + 1)) (by omega) (k209 + 1)  rfl (by omega)
                      exact lp212 _ 0  rfl (by omega)
                    · refine ST.lift (fun _ _ k => T_aload_n (v := .ref 373) d_Mo_begin_241 rfl (Or.inr ⟨_, rfl⟩) k) ?_
                      refine S_getfield d_Mo_begin_242 fg_Mo_416 (w373 _) rfl ?_
                      refine ST.lift (fun _ _ k => T_bipush (v := nI 96) d_Mo_begin_245 (by decide) k) ?_
                      refine ST.lift (fun _ _ k => T_iload_n d_Mo_begin_247 rfl k) ?_
                      refine S_imulN d_Mo_begin_248 ?_
                      refine S_topi (y := nI 288) (by decide) ?_
                      refine ST.lift (fun _ _ k => T_bipush (v := nI 32) d_Mo_begin_249 (by decide) k) ?_
                      refine S_iaddN d_Mo_begin_251 ?_
                      refine S_topi (y := nI 320) (by decide) ?_
                      refine ST.lift (fun _ _ k => T_iload d_Mo_begin_252 rfl k) ?_
                      refine S_iaddN d_Mo_begin_254 ?_
                      refine ST.lift (fun _ _ k => T_aload_n (v := .ref 373) d_Mo_begin_255 rfl (Or.inr ⟨_, rfl⟩) k) ?_
                      refine S_getfield d_Mo_begin_256 fg_Mo_55 (w373 _) rfl ?_
                      refine ST.lift (fun _ _ k => T_iload d_Mo_begin_259 rfl k) ?_
                      refine S_iaload d_Mo_begin_261 a383 (vp_in_nI (by omega) (by omega)) (fun z218 => ?_)
                      refine S_iastore d_Mo_begin_262 (by decide) a432 (vp_in_nI (by omega) (by omega)) ?_
                      refine S_iincN (a := k184) (b := 1) (L' := [(4, .int (nI (k184 + 1))), (3, .int (nI k5)), (0, .ref 373), (1, .int (nI 3)), (2, .int (nI usr))]) d_Mo_begin_263 (by decide) rfl rfl rfl ?_
                      refine ST.lift (fun _ _ k => T_goto (tgt := 234) d_Mo_begin_266 rfl k) ?_
                      exact ih186 (32 - (k184 + 1)) (by omega) (k184 + 1)  rfl (by omega)
                exact lp187 _ 0  rfl (by omega)
              · refine ST.lift (fun _ _ k => T_aload_n (v := .ref 373) d_Mo_begin_202 rfl (Or.inr ⟨_, rfl⟩) k) ?_
                refine S_getfield d_Mo_begin_203 fg_Mo_416 (w373 _) rfl ?_
                refine ST.lift (fun _ _ k => T_bipush (v := nI 96) d_Mo_begin_206 (by decide) k) ?_
                refine ST.lift (fun _ _ k => T_iload_n d_Mo_begin_208 rfl k) ?_
                refine S_imulN d_Mo_begin_209 ?_
                refine S_topi (y := nI 288) (by decide) ?_
                refine ST.lift (fun _ _ k => T_iload d_Mo_begin_210 rfl k) ?_
                refine S_iaddN d_Mo_begin_212 ?_
                refine ST.lift (fun _ _ k => T_aload_n (v := .ref 373) d_Mo_begin_213 rfl (Or.inr ⟨_, rfl⟩) k) ?_
                refine S_getfield d_Mo_begin_214 fg_Mo_146 (w373 _) rfl ?_
                refine ST.lift (fun _ _ k => T_iload d_Mo_begin_217 rfl k) ?_
                refine S_iaload d_Mo_begin_219 a394 (vp_in_nI (by omega) (by omega)) (fun z219 => ?_)
                refine S_iastore d_Mo_begin_220 (by decide) a432 (vp_in_nI (by omega) (by omega)) ?_
                refine S_iincN (a := k159) (b := 1) (L' := [(4, .int (nI (k159 + 1))), (3, .int (nI k5)), (0, .ref 373), (1, .int (nI 3)), (2, .int (nI usr))]) d_Mo_begin_221 (by decide) rfl rfl rfl ?_
                refine ST.lift (fun _ _ k => T_goto (tgt := 195) d_Mo_begin_224 rfl k) ?_
                exact ih161 (32 - (k159 + 1)) (by omega) (k159 + 1)  rfl (by omega)
          exact lp162 _ 0  rfl (by omega)
        · refine ST.lift (fun _ _ k => T_aload_n (v := .ref 373) d_Mo_begin_57 rfl (Or.inr ⟨_, rfl⟩) k) ?_
          refine S_getfield d_Mo_begin_58 fg_Mo_380 (w373 _) rfl ?_
          refine ST.lift (fun _ _ k => T_sipush (v := nI 200) d_Mo_begin_61 (by decide) k) ?_
          refine ST.lift (fun _ _ k => T_iload_n d_Mo_begin_64 rfl k) ?_
          refine S_imulN d_Mo_begin_65 ?_
          refine S_topi (y := nI 600) (by decide) ?_
          refine ST.lift (fun _ _ k => T_iload d_Mo_begin_66 rfl k) ?_
          refine S_iaddN d_Mo_begin_68 ?_
          refine ST.lift (fun _ _ k => T_aload_n (v := .ref 373) d_Mo_begin_69 rfl (Or.inr ⟨_, rfl⟩) k) ?_
          refine S_getfield d_Mo_begin_70 fg_Mo_341 (w373 _) rfl ?_
          refine ST.lift (fun _ _ k => T_iload d_Mo_begin_73 rfl k) ?_
          refine S_iaload d_Mo_begin_75 a409 (vp_in_nI (by omega) (by omega)) (fun z220 => ?_)
          refine S_iastore d_Mo_begin_76 (by decide) a420 (vp_in_nI (by omega) (by omega)) ?_
          refine S_iincN (a := k25) (b := 1) (L' := [(4, .int (nI (k25 + 1))), (3, .int (nI k5)), (0, .ref 373), (1, .int (nI 3)), (2, .int (nI usr))]) d_Mo_begin_77 (by decide) rfl rfl rfl ?_
          refine ST.lift (fun _ _ k => T_goto (tgt := 51) d_Mo_begin_80 rfl k) ?_
          exact ih27 (k5 - (k25 + 1)) (by omega) (k25 + 1)  rfl (by omega)
    exact lp28 _ 0  rfl (by omega)
  · refine ST.lift (fun _ _ k => T_iconst (v := -1) d_Mo_begin_32 (by decide) k) ?_
    exfalso; omega
set_option maxRecDepth 100000 in
set_option maxHeartbeats 4000000 in
theorem c_Mo_begin_3_neg (G : GX) (v : Nat → Int32) (x : Int32) (hx_u : x < 0) (hv : okv v) : CS G mi_Mo_begin [.ref 373, .int (nI 3), .int x] v (fun r v' => r = some (.int (-1)) ∧ okv v' ∧ mdf [66, 73] v v' ∧ v' 73 = nI 0) := by
  refine CS.of (by decide) (Nat.le_of_ble_eq_true rfl) ?_
  generalize hQe : (fun (r : Option Value) (v' : Nat → Int32) => r = some (.int (-1)) ∧ okv v' ∧ mdf [66, 73] v v' ∧ v' 73 = nI 0) = Q
  have hQ : ∀ u, okv u → mdf [66, 73] v u → u 73 = nI 0 → Q (some (.int (-1))) u := by rw [← hQe]; exact fun u h1 h2 f0 => ⟨rfl, h1, h2, f0⟩
  clear hQe
  have hm : mdf [66, 73] v v := mdf.rf
  show ST G mi_Mo_begin 0 [(0, .ref 373), (1, .int (nI 3)), (2, .int x)] [] v 0 0 Q
  refine ST.lift (fun _ _ k => T_aload_n (v := .ref 373) d_Mo_begin_0 rfl (Or.inr ⟨_, rfl⟩) k) ?_
  refine ST.lift (fun _ _ k => T_iconst (v := nI 0) d_Mo_begin_1 (by decide) k) ?_
  refine S_putfield (v' := va_up v 66 (nI 0)) d_Mo_begin_2 (fp_Mo_316 _) (w373 _) (Nat.le_of_ble_eq_true rfl) ⟨rfl, rfl⟩ (u373_0 _ _) ?_
  have hv2 := hv.off (j := 66) (x := (nI 0)) (by decide)
  have hm3 := hm.go (mdf.up (v := v) (j := 66) (x := (nI 0))) (by intro i hi; simp only [List.mem_cons, List.not_mem_nil, or_false] at hi ⊢ <;> omega)
  have e_u1 : (va_up v 66 (nI 0)) 66 = (nI 0) := by simp [va_up]
  generalize va_up v 66 (nI 0) = u1 at hv2 hm3 e_u1 ⊢
  refine ST.lift (fun _ _ k => T_aload_n (v := .ref 373) d_Mo_begin_5 rfl (Or.inr ⟨_, rfl⟩) k) ?_
  obtain ⟨k4, hk4, ek4⟩ := hv2.get (j := 73) (c := 200) (by decide)
  refine S_getfield d_Mo_begin_6 fg_Mo_344 (w373 _) rfl ?_
  refine S_topi (y := nI k4) (ek4) ?_
  refine ST.lift (fun _ _ k => T_istore_n (L' := [(3, .int (nI k4)), (0, .ref 373), (1, .int (nI 3)), (2, .int x)]) d_Mo_begin_9 (by decide) rfl k) ?_
  refine ST.lift (fun _ _ k => T_aload_n (v := .ref 373) d_Mo_begin_10 rfl (Or.inr ⟨_, rfl⟩) k) ?_
  refine ST.lift (fun _ _ k => T_iconst (v := nI 0) d_Mo_begin_11 (by decide) k) ?_
  refine S_putfield (v' := va_up u1 73 (nI 0)) d_Mo_begin_12 (fp_Mo_344 _) (w373 _) (Nat.le_of_ble_eq_true rfl) ⟨rfl, rfl⟩ (u373_43 _ _) ?_
  have hv6 := hv2.up (j := 73) (c := 200) (k := 0) (by decide) (by omega)
  have hm7 := hm3.go (mdf.up (v := u1) (j := 73) (x := (nI 0))) (by intro i hi; simp only [List.mem_cons, List.not_mem_nil, or_false] at hi ⊢ <;> omega)
  have e_u5 : (va_up u1 73 (nI 0)) 73 = (nI 0) := by simp [va_up]
  have e8 : (va_up u1 73 (nI 0)) 66 = nI 0 := by simp only [va_up]; exact e_u1
  generalize va_up u1 73 (nI 0) = u5 at hv6 hm7 e_u5 e8 ⊢
  refine ST.lift (fun _ _ k => T_iload_n d_Mo_begin_15 rfl k) ?_
  refine S_static (as := [.int (nI 3)]) (rest := []) d_Mo_begin_16 rfl (jw_Mo_isSession.jo (by decide)) lm_Mo_545 jt_Mo_isSession rfl (Nat.le_of_ble_eq_true rfl) (by decide) (by decide) (c_Mo_isSession G u5 3 (by omega)) (fun r v' hq => ?_)
  rw [hq.1, hq.2]
  clear hq r v'
  show ST G mi_Mo_begin 19 [(3, .int (nI k4)), (0, .ref 373), (1, .int (nI 3)), (2, .int x)] [.int (nI 1)] u5 0 0 _
  refine S_if_eqN d_Mo_begin_19 rfl (by omega) (fun c => by first | exact absurd c (by omega) | exact c.elim | exact absurd c (by decide) | exact absurd (by assumption) c | exact absurd c (by assumption)) (fun _ => ?_)
  refine ST.lift (fun _ _ k => T_iload_n d_Mo_begin_22 rfl k) ?_
  refine S_if_lt d_Mo_begin_23 rfl (fun _ => ?_) (fun c => by first | exact absurd c (by omega) | exact c.elim | exact absurd c (by decide) | exact absurd (by assumption) c | exact absurd c (by assumption))
  refine ST.lift (fun _ _ k => T_iconst (v := -1) d_Mo_begin_32 (by decide) k) ?_
  exact S_ret d_Mo_begin_33 rfl rfl (by decide) (by decide) (hQ _ hv6 hm7 (e_u5.trans (congrArg nI (by omega))))
set_option maxRecDepth 100000 in
set_option maxHeartbeats 4000000 in
theorem c_Mo_begin_3_big (G : GX) (v : Nat → Int32) (x : Int32) (h0_u : ¬ x < 0) (hx_u : ¬ x ≤ nI 7) (hv : okv v) : CS G mi_Mo_begin [.ref 373, .int (nI 3), .int x] v (fun r v' => r = some (.int (-1)) ∧ okv v' ∧ mdf [66, 73] v v' ∧ v' 73 = nI 0) := by
  refine CS.of (by decide) (Nat.le_of_ble_eq_true rfl) ?_
  generalize hQe : (fun (r : Option Value) (v' : Nat → Int32) => r = some (.int (-1)) ∧ okv v' ∧ mdf [66, 73] v v' ∧ v' 73 = nI 0) = Q
  have hQ : ∀ u, okv u → mdf [66, 73] v u → u 73 = nI 0 → Q (some (.int (-1))) u := by rw [← hQe]; exact fun u h1 h2 f0 => ⟨rfl, h1, h2, f0⟩
  clear hQe
  have hm : mdf [66, 73] v v := mdf.rf
  show ST G mi_Mo_begin 0 [(0, .ref 373), (1, .int (nI 3)), (2, .int x)] [] v 0 0 Q
  refine ST.lift (fun _ _ k => T_aload_n (v := .ref 373) d_Mo_begin_0 rfl (Or.inr ⟨_, rfl⟩) k) ?_
  refine ST.lift (fun _ _ k => T_iconst (v := nI 0) d_Mo_begin_1 (by decide) k) ?_
  refine S_putfield (v' := va_up v 66 (nI 0)) d_Mo_begin_2 (fp_Mo_316 _) (w373 _) (Nat.le_of_ble_eq_true rfl) ⟨rfl, rfl⟩ (u373_0 _ _) ?_
  have hv2 := hv.off (j := 66) (x := (nI 0)) (by decide)
  have hm3 := hm.go (mdf.up (v := v) (j := 66) (x := (nI 0))) (by intro i hi; simp only [List.mem_cons, List.not_mem_nil, or_false] at hi ⊢ <;> omega)
  have e_u1 : (va_up v 66 (nI 0)) 66 = (nI 0) := by simp [va_up]
  generalize va_up v 66 (nI 0) = u1 at hv2 hm3 e_u1 ⊢
  refine ST.lift (fun _ _ k => T_aload_n (v := .ref 373) d_Mo_begin_5 rfl (Or.inr ⟨_, rfl⟩) k) ?_
  obtain ⟨k4, hk4, ek4⟩ := hv2.get (j := 73) (c := 200) (by decide)
  refine S_getfield d_Mo_begin_6 fg_Mo_344 (w373 _) rfl ?_
  refine S_topi (y := nI k4) (ek4) ?_
  refine ST.lift (fun _ _ k => T_istore_n (L' := [(3, .int (nI k4)), (0, .ref 373), (1, .int (nI 3)), (2, .int x)]) d_Mo_begin_9 (by decide) rfl k) ?_
  refine ST.lift (fun _ _ k => T_aload_n (v := .ref 373) d_Mo_begin_10 rfl (Or.inr ⟨_, rfl⟩) k) ?_
  refine ST.lift (fun _ _ k => T_iconst (v := nI 0) d_Mo_begin_11 (by decide) k) ?_
  refine S_putfield (v' := va_up u1 73 (nI 0)) d_Mo_begin_12 (fp_Mo_344 _) (w373 _) (Nat.le_of_ble_eq_true rfl) ⟨rfl, rfl⟩ (u373_43 _ _) ?_
  have hv6 := hv2.up (j := 73) (c := 200) (k := 0) (by decide) (by omega)
  have hm7 := hm3.go (mdf.up (v := u1) (j := 73) (x := (nI 0))) (by intro i hi; simp only [List.mem_cons, List.not_mem_nil, or_false] at hi ⊢ <;> omega)
  have e_u5 : (va_up u1 73 (nI 0)) 73 = (nI 0) := by simp [va_up]
  have e8 : (va_up u1 73 (nI 0)) 66 = nI 0 := by simp only [va_up]; exact e_u1
  generalize va_up u1 73 (nI 0) = u5 at hv6 hm7 e_u5 e8 ⊢
  refine ST.lift (fun _ _ k => T_iload_n d_Mo_begin_15 rfl k) ?_
  refine S_static (as := [.int (nI 3)]) (rest := []) d_Mo_begin_16 rfl (jw_Mo_isSession.jo (by decide)) lm_Mo_545 jt_Mo_isSession rfl (Nat.le_of_ble_eq_true rfl) (by decide) (by decide) (c_Mo_isSession G u5 3 (by omega)) (fun r v' hq => ?_)
  rw [hq.1, hq.2]
  clear hq r v'
  show ST G mi_Mo_begin 19 [(3, .int (nI k4)), (0, .ref 373), (1, .int (nI 3)), (2, .int x)] [.int (nI 1)] u5 0 0 _
  refine S_if_eqN d_Mo_begin_19 rfl (by omega) (fun c => by first | exact absurd c (by omega) | exact c.elim | exact absurd c (by decide) | exact absurd (by assumption) c | exact absurd c (by assumption)) (fun _ => ?_)
  refine ST.lift (fun _ _ k => T_iload_n d_Mo_begin_22 rfl k) ?_
  refine S_if_lt d_Mo_begin_23 rfl (fun c => by first | exact absurd c (by omega) | exact c.elim | exact absurd c (by decide) | exact absurd (by assumption) c | exact absurd c (by assumption)) (fun _ => ?_)
  refine ST.lift (fun _ _ k => T_iload_n d_Mo_begin_26 rfl k) ?_
  refine ST.lift (fun _ _ k => T_bipush (v := nI 7) d_Mo_begin_27 (by decide) k) ?_
  refine S_icmp_le d_Mo_begin_29 rfl (fun c => by first | exact absurd c (by omega) | exact c.elim | exact absurd c (by decide) | exact absurd (by assumption) c | exact absurd c (by assumption)) (fun _ => ?_)
  refine ST.lift (fun _ _ k => T_iconst (v := -1) d_Mo_begin_32 (by decide) k) ?_
  exact S_ret d_Mo_begin_33 rfl rfl (by decide) (by decide) (hQ _ hv6 hm7 (e_u5.trans (congrArg nI (by omega))))
set_option maxRecDepth 100000 in
set_option maxHeartbeats 4000000 in
theorem c_Mo_answer_3 (G : GX) (v : Nat → Int32) (e67 : v 67 = nI 0) (hv : okv v) : CS G mi_Mo_answer [.ref 373, .int (nI 3)] v (fun r v' => ∃ z : Int32, r = some (.int z) ∧ okv v' ∧ mdf [66, 67, 70, 68, 69, 72, 75, 91, 95, 99, 103, 107, 111, 115, 119, 123, 127] v v' ∧ v' 67 = nI 0) := by
  refine CS.of (by decide) (Nat.le_of_ble_eq_true rfl) ?_
  generalize hQe : (fun (r : Option Value) (v' : Nat → Int32) => ∃ z : Int32, r = some (.int z) ∧ okv v' ∧ mdf [66, 67, 70, 68, 69, 72, 75, 91, 95, 99, 103, 107, 111, 115, 119, 123, 127] v v' ∧ v' 67 = nI 0) = Q
  have hQ : ∀ (z : Int32) (u : Nat → Int32), okv u → mdf [66, 67, 70, 68, 69, 72, 75, 91, 95, 99, 103, 107, 111, 115, 119, 123, 127] v u → u 67 = nI 0 → Q (some (.int z)) u := by rw [← hQe]; exact fun z u h1 h2 f0 => ⟨z, rfl, h1, h2, f0⟩
  clear hQe
  have hm : mdf [66, 67, 70, 68, 69, 72, 75, 91, 95, 99, 103, 107, 111, 115, 119, 123, 127] v v := mdf.rf
  show ST G mi_Mo_answer 0 [(0, .ref 373), (1, .int (nI 3))] [] v 0 0 Q
  refine ST.lift (fun _ _ k => T_aload_n (v := .ref 373) d_Mo_answer_0 rfl (Or.inr ⟨_, rfl⟩) k) ?_
  refine ST.lift (fun _ _ k => T_iconst (v := nI 0) d_Mo_answer_1 (by decide) k) ?_
  refine S_putfield (v' := va_up v 66 (nI 0)) d_Mo_answer_2 (fp_Mo_316 _) (w373 _) (Nat.le_of_ble_eq_true rfl) ⟨rfl, rfl⟩ (u373_0 _ _) ?_
  have hv2 := hv.off (j := 66) (x := (nI 0)) (by decide)
  have hm3 := hm.go (mdf.up (v := v) (j := 66) (x := (nI 0))) (by intro i hi; simp only [List.mem_cons, List.not_mem_nil, or_false] at hi ⊢ <;> omega)
  have e_u1 : (va_up v 66 (nI 0)) 66 = (nI 0) := by simp [va_up]
  have e4 : (va_up v 66 (nI 0)) 67 = nI 0 := by simp only [va_up]; exact e67
  generalize va_up v 66 (nI 0) = u1 at hv2 hm3 e_u1 e4 ⊢
  refine ST.lift (fun _ _ k => T_iload_n d_Mo_answer_5 rfl k) ?_
  refine S_static (as := [.int (nI 3)]) (rest := []) d_Mo_answer_6 rfl (jw_Mo_isSession.jo (by decide)) lm_Mo_545 jt_Mo_isSession rfl (Nat.le_of_ble_eq_true rfl) (by decide) (by decide) (c_Mo_isSession G u1 3 (by omega)) (fun r v' hq => ?_)
  rw [hq.1, hq.2]
  clear hq r v'
  show ST G mi_Mo_answer 9 [(0, .ref 373), (1, .int (nI 3))] [.int (nI 1)] u1 0 0 _
  refine S_if_neN d_Mo_answer_9 rfl (by omega) (fun _ => ?_) (fun c => by first | exact absurd c (by omega) | exact c.elim | exact absurd c (by decide) | exact absurd (by assumption) c | exact absurd c (by assumption))
  refine ST.lift (fun _ _ k => T_aload_n (v := .ref 373) d_Mo_answer_14 rfl (Or.inr ⟨_, rfl⟩) k) ?_
  refine S_getfield d_Mo_answer_15 fg_Mo_392 (w373 _) rfl ?_
  refine ST.lift (fun _ _ k => T_iload_n d_Mo_answer_18 rfl k) ?_
  refine S_xload (t := 3) (k := 3) (Or.inr ⟨rfl, d_Mo_answer_19⟩) rfl (w424 _) (by decide) (by decide) ?_
  refine S_topi (y := u1 99) rfl ?_
  refine S_if_eq d_Mo_answer_20 rfl (fun c5 => ?_) (fun c5 => ?_)
  · refine ST.lift (fun _ _ k => T_iconst (v := nI 2) d_Mo_answer_32 (by decide) k) ?_
    exact S_ret d_Mo_answer_33 rfl rfl (by decide) (by decide) (hQ _ _ hv2 hm3 (e4.trans (congrArg nI (by omega))))
  · refine ST.lift (fun _ _ k => T_aload_n (v := .ref 373) d_Mo_answer_23 rfl (Or.inr ⟨_, rfl⟩) k) ?_
    refine S_getfield d_Mo_answer_24 fg_Mo_401 (w373 _) rfl ?_
    refine ST.lift (fun _ _ k => T_iload_n d_Mo_answer_27 rfl k) ?_
    refine S_xload (t := 3) (k := 3) (Or.inr ⟨rfl, d_Mo_answer_28⟩) rfl (w427 _) (by decide) (by decide) ?_
    refine S_topi (y := u1 111) rfl ?_
    refine S_if_eq d_Mo_answer_29 rfl (fun c6 => ?_) (fun c6 => ?_)
    · refine ST.lift (fun _ _ k => T_iload_n d_Mo_answer_34 rfl k) ?_
      refine ST.lift (fun _ _ k => T_istore_n (L' := [(2, .int (nI 3)), (0, .ref 373), (1, .int (nI 3))]) d_Mo_answer_35 (by decide) rfl k) ?_
      refine ST.lift (fun _ _ k => T_aload_n (v := .ref 373) d_Mo_answer_36 rfl (Or.inr ⟨_, rfl⟩) k) ?_
      refine S_getfield d_Mo_answer_37 fg_Mo_401 (w373 _) rfl ?_
      refine ST.lift (fun _ _ k => T_iload_n d_Mo_answer_40 rfl k) ?_
      refine ST.lift (fun _ _ k => T_iconst (v := nI 1) d_Mo_answer_41 (by decide) k) ?_
      refine S_xstore (k := 3) (y := (nI 1)) (v' := va_up u1 111 (nI 1)) (Or.inr ⟨rfl, by decide, d_Mo_answer_42⟩) (by decide) rfl (w427 _) (by decide) (by decide) (x427_3 _ _) ?_
      have hv8 := hv2.off (j := 111) (x := (nI 1)) (by decide)
      have hm9 := hm3.go (mdf.up (v := u1) (j := 111) (x := (nI 1))) (by intro i hi; simp only [List.mem_cons, List.not_mem_nil, or_false] at hi ⊢ <;> omega)
      have e_u7 : (va_up u1 111 (nI 1)) 111 = (nI 1) := by simp [va_up]
      have e10 : (va_up u1 111 (nI 1)) 67 = nI 0 := by simp only [va_up]; exact e4
      have e11 : (va_up u1 111 (nI 1)) 66 = nI 0 := by simp only [va_up]; exact e_u1
      generalize va_up u1 111 (nI 1) = u7 at hv8 hm9 e_u7 e10 e11 ⊢
      refine ST.lift (fun _ _ k => T_aload_n (v := .ref 373) d_Mo_answer_43 rfl (Or.inr ⟨_, rfl⟩) k) ?_
      refine ST.lift (fun _ _ k => T_bipush (v := nI 12) d_Mo_answer_44 (by decide) k) ?_
      refine ST.lift (fun _ _ k => T_aload_n (v := .ref 373) d_Mo_answer_46 rfl (Or.inr ⟨_, rfl⟩) k) ?_
      refine S_getfield d_Mo_answer_47 fg_Mo_419 (w373 _) rfl ?_
      refine ST.lift (fun _ _ k => T_bipush (v := nI 96) d_Mo_answer_50 (by decide) k) ?_
      refine ST.lift (fun _ _ k => T_iload_n d_Mo_answer_52 rfl k) ?_
      refine S_imulN d_Mo_answer_53 ?_
      refine S_topi (y := nI 288) (by decide) ?_
      refine S_virtual (as := [.int (nI 12), .ref 433, .int (nI 288)]) (rest := []) (b := 373) d_Mo_answer_54 rfl (jw_Mo_decode.jo (by decide)) lm_Mo_502 ji_Mo_decode js_Mo_decode (w373 _) rfl rfl rfl (Nat.le_of_ble_eq_true rfl) (by decide) (by decide) (c_Mo_decode G u7 12 (by omega) 433 384 (by decide) a433 (by omega) 288 (by omega)) (fun r v' hq => ?_)
      obtain ⟨z12, hz12, hr, hv⟩ := hq
      rw [hr, hv]
      clear hr hv r v'
      show ST G mi_Mo_answer 57 [(2, .int (nI 3)), (0, .ref 373), (1, .int (nI 3))] [.int (nI z12)] u7 0 0 _
      refine S_if_eqN d_Mo_answer_57 rfl (by omega) (fun c13 => ?_) (fun c13 => ?_)
      · refine ST.lift (fun _ _ k => T_iconst (v := nI 1) d_Mo_answer_80 (by decide) k) ?_
        exact S_ret d_Mo_answer_81 rfl rfl (by decide) (by decide) (hQ _ _ hv8 hm9 (e10.trans (congrArg nI (by omega))))
      · refine ST.lift (fun _ _ k => T_aload_n (v := .ref 373) d_Mo_answer_60 rfl (Or.inr ⟨_, rfl⟩) k) ?_
        refine ST.lift (fun _ _ k => T_bipush (v := nI 12) d_Mo_answer_61 (by decide) k) ?_
        refine ST.lift (fun _ _ k => T_aload_n (v := .ref 373) d_Mo_answer_63 rfl (Or.inr ⟨_, rfl⟩) k) ?_
        refine S_getfield d_Mo_answer_64 fg_Mo_419 (w373 _) rfl ?_
        refine ST.lift (fun _ _ k => T_bipush (v := nI 96) d_Mo_answer_67 (by decide) k) ?_
        refine ST.lift (fun _ _ k => T_iload_n d_Mo_answer_69 rfl k) ?_
        refine S_imulN d_Mo_answer_70 ?_
        refine S_topi (y := nI 288) (by decide) ?_
        refine ST.lift (fun _ _ k => T_bipush (v := nI 64) d_Mo_answer_71 (by decide) k) ?_
        refine S_iaddN d_Mo_answer_73 ?_
        refine S_topi (y := nI 352) (by decide) ?_
        refine S_virtual (as := [.int (nI 12), .ref 433, .int (nI 352)]) (rest := []) (b := 373) d_Mo_answer_74 rfl (jw_Mo_decode.jo (by decide)) lm_Mo_502 ji_Mo_decode js_Mo_decode (w373 _) rfl rfl rfl (Nat.le_of_ble_eq_true rfl) (by decide) (by decide) (c_Mo_decode G u7 12 (by omega) 433 384 (by decide) a433 (by omega) 352 (by omega)) (fun r v' hq => ?_)
        obtain ⟨z14, hz14, hr, hv⟩ := hq
        rw [hr, hv]
        clear hr hv r v'
        show ST G mi_Mo_answer 77 [(2, .int (nI 3)), (0, .ref 373), (1, .int (nI 3))] [.int (nI z14)] u7 0 0 _
        refine S_if_neN d_Mo_answer_77 rfl (by omega) (fun c15 => ?_) (fun c15 => ?_)
        · refine ST.lift (fun _ _ k => T_aload_n (v := .ref 373) d_Mo_answer_82 rfl (Or.inr ⟨_, rfl⟩) k) ?_
          refine S_getfield d_Mo_answer_83 fg_Mo_377 (w373 _) rfl ?_
          refine ST.lift (fun _ _ k => T_iload_n d_Mo_answer_86 rfl k) ?_
          obtain ⟨k16, hk16, ek16⟩ := hv8.get (j := 91) (c := 7) (by decide)
          refine S_xload (t := 2) (k := 3) (Or.inl ⟨rfl, d_Mo_answer_87⟩) rfl (w419 _) (by decide) (by decide) ?_
          refine S_topi (y := u7 91) rfl ?_
          refine S_topi (y := nI k16) (ek16) ?_
          refine ST.lift (fun _ _ k => T_istore_n (L' := [(3, .int (nI k16)), (2, .int (nI 3)), (0, .ref 373), (1, .int (nI 3))]) d_Mo_answer_88 (by decide) rfl k) ?_
          refine ST.lift (fun _ _ k => T_iconst (v := nI 0) d_Mo_answer_89 (by decide) k) ?_
          refine ST.lift (fun _ _ k => T_istore (L' := [(4, .int (nI 0)), (3, .int (nI k16)), (2, .int (nI 3)), (0, .ref 373), (1, .int (nI 3))]) d_Mo_answer_90 (by decide) rfl k) ?_
          have lp20 : ∀ (n18 k17 : Nat), 192 - k17 = n18 → 0 ≤ k17 ∧ k17 ≤ 0 + 192 → ST G mi_Mo_answer 92 [(4, .int (nI k17)), (3, .int (nI k16)), (2, .int (nI 3)), (0, .ref 373), (1, .int (nI 3))] [] u7 0 0 Q := by
            intro n18
            induction n18 using Nat.strongRecOn with
            | _ n18 ih19 =>
              intro k17 h21 h22
              refine ST.lift (fun _ _ k => T_iload d_Mo_answer_92 rfl k) ?_
              refine ST.lift (fun _ _ k => T_sipush (v := nI 192) d_Mo_answer_94 (by decide) k) ?_
              refine S_icmp_geN d_Mo_answer_97 rfl (by omega) (by omega) (fun c23 => ?_) (fun c23 => ?_)
              · refine ST.lift (fun _ _ k => T_aload_n (v := .ref 373) d_Mo_answer_126 rfl (Or.inr ⟨_, rfl⟩) k) ?_
                refine S_getfield d_Mo_answer_127 fg_Mo_328 (w373 _) rfl ?_
                refine ST.lift (fun _ _ k => T_iload_n d_Mo_answer_130 rfl k) ?_
                refine S_zaload d_Mo_answer_131 a405 (vp_in_nI (by omega) (by omega)) (fun z25 hz25 => ?_)
                have J211_60 : ∀ (u61 : Nat → Int32) (hv_u61 : okv u61) (hm_u61 : mdf [66, 67, 70, 68, 69, 72, 75, 91, 95, 99, 103, 107, 111, 115, 119, 123, 127] v u61) (es_u61 : u61 67 = nI 0) (z59 : Int32), ST G mi_Mo_answer 211 [(4, .int z59), (3, .int (nI k16)), (2, .int (nI 3)), (0, .ref 373), (1, .int (nI 3))] [] u61 0 0 Q := by
                  intro u61 hv_u61 hm_u61 es_u61 z59
                  refine ST.lift (fun _ _ k => T_aload_n (v := .ref 373) d_Mo_answer_211 rfl (Or.inr ⟨_, rfl⟩) k) ?_
                  refine ST.lift (fun _ _ k => T_iload_n d_Mo_answer_212 rfl k) ?_
                  refine S_virtual (as := [.int (nI k16)]) (rest := []) (b := 373) d_Mo_answer_213 rfl (jw_Mo_userKey.jo (by decide)) lm_Mo_530 ji_Mo_userKey js_Mo_userKey (w373 _) rfl rfl rfl (Nat.le_of_ble_eq_true rfl) (by decide) (by decide) (c_Mo_userKey G u61 (nI k16) 0 es_u61 (by omega) hv_u61) (fun r u62 hq => ?_)
                  obtain ⟨hr, hv63, hm64, es_u62⟩ := hq
                  rw [hr]
                  clear hr r
                  have hm66 := hm_u61.go hm64 (by intro i hi; simp only [List.mem_cons, List.not_mem_nil, or_false] at hi ⊢ <;> omega)
                  show ST G mi_Mo_answer 216 [(4, .int z59), (3, .int (nI k16)), (2, .int (nI 3)), (0, .ref 373), (1, .int (nI 3))] [] u62 0 0 _
                  refine ST.lift (fun _ _ k => T_aload_n (v := .ref 373) d_Mo_answer_216 rfl (Or.inr ⟨_, rfl⟩) k) ?_
                  refine ST.lift (fun _ _ k => T_bipush (v := nI 12) d_Mo_answer_217 (by decide) k) ?_
                  refine ST.lift (fun _ _ k => T_aload_n (v := .ref 373) d_Mo_answer_219 rfl (Or.inr ⟨_, rfl⟩) k) ?_
                  refine S_getfield d_Mo_answer_220 fg_Mo_419 (w373 _) rfl ?_
                  refine ST.lift (fun _ _ k => T_bipush (v := nI 96) d_Mo_answer_223 (by decide) k) ?_
                  refine ST.lift (fun _ _ k => T_iload_n d_Mo_answer_225 rfl k) ?_
                  refine S_imulN d_Mo_answer_226 ?_
                  refine S_topi (y := nI 288) (by decide) ?_
                  refine S_virtual (as := [.int (nI 12), .ref 433, .int (nI 288)]) (rest := []) (b := 373) d_Mo_answer_227 rfl (jw_Mo_decode.jo (by decide)) lm_Mo_502 ji_Mo_decode js_Mo_decode (w373 _) rfl rfl rfl (Nat.le_of_ble_eq_true rfl) (by decide) (by decide) (c_Mo_decode G u62 12 (by omega) 433 384 (by decide) a433 (by omega) 288 (by omega)) (fun r v' hq => ?_)
                  obtain ⟨z67, hz67, hr, hv⟩ := hq
                  rw [hr, hv]
                  clear hr hv r v'
                  show ST G mi_Mo_answer 230 [(4, .int z59), (3, .int (nI k16)), (2, .int (nI 3)), (0, .ref 373), (1, .int (nI 3))] [.int (nI z67)] u62 0 0 _
                  refine ST.lift (fun _ _ k => T_pop d_Mo_answer_230 rfl k) ?_
                  refine ST.lift (fun _ _ k => T_aload_n (v := .ref 373) d_Mo_answer_231 rfl (Or.inr ⟨_, rfl⟩) k) ?_
                  refine ST.lift (fun _ _ k => T_bipush (v := nI 12) d_Mo_answer_232 (by decide) k) ?_
                  refine ST.lift (fun _ _ k => T_bipush (v := nI 12) d_Mo_answer_234 (by decide) k) ?_
                  refine S_virtual (as := [.int (nI 12), .int (nI 12)]) (rest := []) (b := 373) d_Mo_answer_236 rfl (jw_Mo_timesPoint.jo (by decide)) lm_Mo_290 ji_Mo_timesPoint js_Mo_timesPoint (w373 _) rfl rfl rfl (Nat.le_of_ble_eq_true rfl) (by decide) (by decide) (c_Mo_timesPoint G u62 12 (by omega) 12 (by omega)) (fun r v' hq => ?_)
                  rw [hq.1, hq.2]
                  clear hq r v'
                  show ST G mi_Mo_answer 239 [(4, .int z59), (3, .int (nI k16)), (2, .int (nI 3)), (0, .ref 373), (1, .int (nI 3))] [] u62 0 0 _
                  refine ST.lift (fun _ _ k => T_aload_n (v := .ref 373) d_Mo_answer_239 rfl (Or.inr ⟨_, rfl⟩) k) ?_
                  refine ST.lift (fun _ _ k => T_bipush (v := nI 12) d_Mo_answer_240 (by decide) k) ?_
                  refine S_virtual (as := [.int (nI 12)]) (rest := []) (b := 373) d_Mo_answer_242 rfl (jw_Mo_code.jo (by decide)) lm_Mo_293 ji_Mo_code js_Mo_code (w373 _) rfl rfl rfl (Nat.le_of_ble_eq_true rfl) (by decide) (by decide) (c_Mo_code G u62 12 (by omega)) (fun r v' hq => ?_)
                  rw [hq.1, hq.2]
                  clear hq r v'
                  show ST G mi_Mo_answer 245 [(4, .int z59), (3, .int (nI k16)), (2, .int (nI 3)), (0, .ref 373), (1, .int (nI 3))] [] u62 0 0 _
                  refine ST.lift (fun _ _ k => T_sipush (v := nI 320) d_Mo_answer_245 (by decide) k) ?_
                  refine ST.lift (fun _ _ k => T_iload_n d_Mo_answer_248 rfl k) ?_
                  refine S_imulN d_Mo_answer_249 ?_
                  refine S_topi (y := nI 960) (by decide) ?_
                  refine ST.lift (fun _ _ k => T_istore (L' := [(4, .int (nI 960)), (3, .int (nI k16)), (2, .int (nI 3)), (0, .ref 373), (1, .int (nI 3))]) d_Mo_answer_250 (by decide) rfl k) ?_
                  refine ST.lift (fun _ _ k => T_iconst (v := nI 0) d_Mo_answer_252 (by decide) k) ?_
                  refine ST.lift (fun _ _ k => T_istore (L' := [(5, .int (nI 0)), (4, .int (nI 960)), (3, .int (nI k16)), (2, .int (nI 3)), (0, .ref 373), (1, .int (nI 3))]) d_Mo_answer_253 (by decide) rfl k) ?_
                  have lp71 : ∀ (n69 k68 : Nat), 32 - k68 = n69 → 0 ≤ k68 ∧ k68 ≤ 0 + 32 → ST G mi_Mo_answer 255 [(5, .int (nI k68)), (4, .int (nI 960)), (3, .int (nI k16)), (2, .int (nI 3)), (0, .ref 373), (1, .int (nI 3))] [] u62 0 0 Q := by
                    intro n69
                    induction n69 using Nat.strongRecOn with
                    | _ n69 ih70 =>
                      intro k68 h72 h73
                      refine ST.lift (fun _ _ k => T_iload d_Mo_answer_255 rfl k) ?_
                      refine ST.lift (fun _ _ k => T_bipush (v := nI 32) d_Mo_answer_257 (by decide) k) ?_
                      refine S_icmp_geN d_Mo_answer_259 rfl (by omega) (by omega) (fun c74 => ?_) (fun c74 => ?_)
                      · refine ST.lift (fun _ _ k => T_aload_n (v := .ref 373) d_Mo_answer_285 rfl (Or.inr ⟨_, rfl⟩) k) ?_
                        refine S_virtual (as := []) (rest := []) (b := 373) d_Mo_answer_286 rfl (jw_Mo_chance.jo (by decide)) lm_Mo_304 ji_Mo_chance js_Mo_chance (w373 _) rfl rfl rfl (Nat.le_of_ble_eq_true rfl) (by decide) (by decide) (c_Mo_chance G u62 0 es_u62 (by omega) hv63) (fun r u76 hq => ?_)
                        obtain ⟨hr, hv77, hm78, es_u76⟩ := hq
                        rw [hr]
                        clear hr r
                        have hm80 := hm66.go hm78 (by intro i hi; simp only [List.mem_cons, List.not_mem_nil, or_false] at hi ⊢ <;> omega)
                        show ST G mi_Mo_answer 289 [(5, .int (nI k68)), (4, .int (nI 960)), (3, .int (nI k16)), (2, .int (nI 3)), (0, .ref 373), (1, .int (nI 3))] [] u76 0 0 _
                        refine ST.lift (fun _ _ k => T_iconst (v := nI 0) d_Mo_answer_289 (by decide) k) ?_
                        refine ST.lift (fun _ _ k => T_istore (L' := [(5, .int (nI 0)), (4, .int (nI 960)), (3, .int (nI k16)), (2, .int (nI 3)), (0, .ref 373), (1, .int (nI 3))]) d_Mo_answer_290 (by decide) rfl k) ?_
                        have lp84 : ∀ (n82 k81 : Nat), 32 - k81 = n82 → 0 ≤ k81 ∧ k81 ≤ 0 + 32 → ST G mi_Mo_answer 292 [(5, .int (nI k81)), (4, .int (nI 960)), (3, .int (nI k16)), (2, .int (nI 3)), (0, .ref 373), (1, .int (nI 3))] [] u76 0 0 Q := by
                          intro n82
                          induction n82 using Nat.strongRecOn with
                          | _ n82 ih83 =>
                            intro k81 h85 h86
                            refine ST.lift (fun _ _ k => T_iload d_Mo_answer_292 rfl k) ?_
                            refine ST.lift (fun _ _ k => T_bipush (v := nI 32) d_Mo_answer_294 (by decide) k) ?_
                            refine S_icmp_geN d_Mo_answer_296 rfl (by omega) (by omega) (fun c87 => ?_) (fun c87 => ?_)
                            · refine ST.lift (fun _ _ k => T_aload_n (v := .ref 373) d_Mo_answer_325 rfl (Or.inr ⟨_, rfl⟩) k) ?_
                              refine ST.lift (fun _ _ k => T_aload_n (v := .ref 373) d_Mo_answer_326 rfl (Or.inr ⟨_, rfl⟩) k) ?_
                              refine S_getfield d_Mo_answer_327 fg_Mo_335 (w373 _) rfl ?_
                              refine ST.lift (fun _ _ k => T_bipush (v := nI 32) d_Mo_answer_330 (by decide) k) ?_
                              refine ST.lift (fun _ _ k => T_aload_n (v := .ref 373) d_Mo_answer_332 rfl (Or.inr ⟨_, rfl⟩) k) ?_
                              refine S_getfield d_Mo_answer_333 fg_Mo_422 (w373 _) rfl ?_
                              refine ST.lift (fun _ _ k => T_iload d_Mo_answer_336 rfl k) ?_
                              refine ST.lift (fun _ _ k => T_bipush (v := nI 32) d_Mo_answer_338 (by decide) k) ?_
                              refine S_iaddN d_Mo_answer_340 ?_
                              refine S_topi (y := nI 992) (by decide) ?_
                              refine S_virtual (as := [.ref 407, .int (nI 32), .ref 434, .int (nI 992)]) (rest := []) (b := 373) d_Mo_answer_341 rfl (jw_Mo_padOf.jo (by decide)) lm_Mo_578 ji_Mo_padOf js_Mo_padOf (w373 _) rfl rfl rfl (Nat.le_of_ble_eq_true rfl) (by decide) (by decide) (c_Mo_padOf G u76 407 192 (by decide) a407 (by omega) 32 (by omega) 434 1280 (by decide) a434 (by omega) 992 (by omega) 0 es_u76 (by omega) hv77) (fun r u89 hq => ?_)
                              obtain ⟨hr, hv90, hm91, es_u89⟩ := hq
                              rw [hr]
                              clear hr r
                              have hm93 := hm80.go hm91 (by intro i hi; simp only [List.mem_cons, List.not_mem_nil, or_false] at hi ⊢ <;> omega)
                              show ST G mi_Mo_answer 344 [(5, .int (nI k81)), (4, .int (nI 960)), (3, .int (nI k16)), (2, .int (nI 3)), (0, .ref 373), (1, .int (nI 3))] [] u89 0 0 _
                              refine ST.lift (fun _ _ k => T_iconst (v := nI 0) d_Mo_answer_344 (by decide) k) ?_
                              refine ST.lift (fun _ _ k => T_istore (L' := [(5, .int (nI 0)), (4, .int (nI 960)), (3, .int (nI k16)), (2, .int (nI 3)), (0, .ref 373), (1, .int (nI 3))]) d_Mo_answer_345 (by decide) rfl k) ?_
                              have lp97 : ∀ (n95 k94 : Nat), 32 - k94 = n95 → 0 ≤ k94 ∧ k94 ≤ 0 + 32 → ST G mi_Mo_answer 347 [(5, .int (nI k94)), (4, .int (nI 960)), (3, .int (nI k16)), (2, .int (nI 3)), (0, .ref 373), (1, .int (nI 3))] [] u89 0 0 Q := by
                                intro n95
                                induction n95 using Nat.strongRecOn with
                                | _ n95 ih96 =>
                                  intro k94 h98 h99
                                  refine ST.lift (fun _ _ k => T_iload d_Mo_answer_347 rfl k) ?_
                                  refine ST.lift (fun _ _ k => T_bipush (v := nI 32) d_Mo_answer_349 (by decide) k) ?_
                                  refine S_icmp_geN d_Mo_answer_351 rfl (by omega) (by omega) (fun c100 => ?_) (fun c100 => ?_)
                                  · refine ST.lift (fun _ _ k => T_iconst (v := nI 0) d_Mo_answer_388 (by decide) k) ?_
                                    refine ST.lift (fun _ _ k => T_istore (L' := [(5, .int (nI 0)), (4, .int (nI 960)), (3, .int (nI k16)), (2, .int (nI 3)), (0, .ref 373), (1, .int (nI 3))]) d_Mo_answer_389 (by decide) rfl k) ?_
                                    have lp107 : ∀ (n105 k104 : Nat), 96 - k104 = n105 → 0 ≤ k104 ∧ k104 ≤ 0 + 96 → ST G mi_Mo_answer 391 [(5, .int (nI k104)), (4, .int (nI 960)), (3, .int (nI k16)), (2, .int (nI 3)), (0, .ref 373), (1, .int (nI 3))] [] u89 0 0 Q := by
                                      intro n105
                                      induction n105 using Nat.strongRecOn with
                                      | _ n105 ih106 =>
                                        intro k104 h108 h109
                                        refine ST.lift (fun _ _ k => T_iload d_Mo_answer_391 rfl k) ?_
                                        refine ST.lift (fun _ _ k => T_bipush (v := nI 96) d_Mo_answer_393 (by decide) k) ?_
                                        refine S_icmp_geN d_Mo_answer_395 rfl (by omega) (by omega) (fun c110 => ?_) (fun c110 => ?_)
                                        · refine ST.lift (fun _ _ k => T_aload_n (v := .ref 373) d_Mo_answer_438 rfl (Or.inr ⟨_, rfl⟩) k) ?_
                                          refine S_virtual (as := []) (rest := []) (b := 373) d_Mo_answer_439 rfl (jw_Mo_chance.jo (by decide)) lm_Mo_304 ji_Mo_chance js_Mo_chance (w373 _) rfl rfl rfl (Nat.le_of_ble_eq_true rfl) (by decide) (by decide) (c_Mo_chance G u89 0 es_u89 (by omega) hv90) (fun r u114 hq => ?_)
                                          obtain ⟨hr, hv115, hm116, es_u114⟩ := hq
                                          rw [hr]
                                          clear hr r
                                          have hm118 := hm93.go hm116 (by intro i hi; simp only [List.mem_cons, List.not_mem_nil, or_false] at hi ⊢ <;> omega)
                                          show ST G mi_Mo_answer 442 [(5, .int (nI k104)), (4, .int (nI 960)), (3, .int (nI k16)), (2, .int (nI 3)), (0, .ref 373), (1, .int (nI 3))] [] u114 0 0 _
                                          refine ST.lift (fun _ _ k => T_iconst (v := nI 0) d_Mo_answer_442 (by decide) k) ?_
                                          refine ST.lift (fun _ _ k => T_istore (L' := [(5, .int (nI 0)), (4, .int (nI 960)), (3, .int (nI k16)), (2, .int (nI 3)), (0, .ref 373), (1, .int (nI 3))]) d_Mo_answer_443 (by decide) rfl k) ?_
                                          have lp122 : ∀ (n120 k119 : Nat), 32 - k119 = n120 → 0 ≤ k119 ∧ k119 ≤ 0 + 32 → ST G mi_Mo_answer 445 [(5, .int (nI k119)), (4, .int (nI 960)), (3, .int (nI k16)), (2, .int (nI 3)), (0, .ref 373), (1, .int (nI 3))] [] u114 0 0 Q := by
                                            intro n120
                                            induction n120 using Nat.strongRecOn with
                                            | _ n120 ih121 =>
                                              intro k119 h123 h124
                                              refine ST.lift (fun _ _ k => T_iload d_Mo_answer_445 rfl k) ?_
                                              refine ST.lift (fun _ _ k => T_bipush (v := nI 32) d_Mo_answer_447 (by decide) k) ?_
                                              refine S_icmp_geN d_Mo_answer_449 rfl (by omega) (by omega) (fun c125 => ?_) (fun c125 => ?_)
                                              · refine ST.lift (fun _ _ k => T_aload_n (v := .ref 373) d_Mo_answer_479 rfl (Or.inr ⟨_, rfl⟩) k) ?_
                                                refine S_virtual (as := []) (rest := []) (b := 373) d_Mo_answer_480 rfl (jw_Mo_chanceScalar.jo (by decide)) lm_Mo_548 ji_Mo_chanceScalar js_Mo_chanceScalar (w373 _) rfl rfl rfl (Nat.le_of_ble_eq_true rfl) (by decide) (by decide) (c_Mo_chanceScalar G u114 0 es_u114 (by omega) hv115) (fun r u127 hq => ?_)
                                                obtain ⟨hr, hv128, hm129, es_u127⟩ := hq
                                                rw [hr]
                                                clear hr r
                                                have hm131 := hm118.go hm129 (by intro i hi; simp only [List.mem_cons, List.not_mem_nil, or_false] at hi ⊢ <;> omega)
                                                show ST G mi_Mo_answer 483 [(5, .int (nI k119)), (4, .int (nI 960)), (3, .int (nI k16)), (2, .int (nI 3)), (0, .ref 373), (1, .int (nI 3))] [] u127 0 0 _
                                                refine ST.lift (fun _ _ k => T_aload_n (v := .ref 373) d_Mo_answer_483 rfl (Or.inr ⟨_, rfl⟩) k) ?_
                                                refine ST.lift (fun _ _ k => T_aload_n (v := .ref 373) d_Mo_answer_484 rfl (Or.inr ⟨_, rfl⟩) k) ?_
                                                refine S_getfield d_Mo_answer_485 fg_Mo_470 (w373 _) rfl ?_
                                                refine ST.lift (fun _ _ k => T_iconst (v := nI 0) d_Mo_answer_488 (by decide) k) ?_
                                                refine S_virtual (as := [.ref 449, .int (nI 0)]) (rest := []) (b := 373) d_Mo_answer_489 rfl (jw_Mo_putScalar.jo (by decide)) lm_Mo_489 ji_Mo_putScalar js_Mo_putScalar (w373 _) rfl rfl rfl (Nat.le_of_ble_eq_true rfl) (by decide) (by decide) (c_Mo_putScalar G u127 449 16 (by decide) a449 (by omega) 0 (by omega)) (fun r v' hq => ?_)
                                                rw [hq.1, hq.2]
                                                clear hq r v'
                                                show ST G mi_Mo_answer 492 [(5, .int (nI k119)), (4, .int (nI 960)), (3, .int (nI k16)), (2, .int (nI 3)), (0, .ref 373), (1, .int (nI 3))] [] u127 0 0 _
                                                refine ST.lift (fun _ _ k => T_aload_n (v := .ref 373) d_Mo_answer_492 rfl (Or.inr ⟨_, rfl⟩) k) ?_
                                                refine ST.lift (fun _ _ k => T_aload_n (v := .ref 373) d_Mo_answer_493 rfl (Or.inr ⟨_, rfl⟩) k) ?_
                                                refine S_getfield d_Mo_answer_494 fg_Mo_422 (w373 _) rfl ?_
                                                refine ST.lift (fun _ _ k => T_iload d_Mo_answer_497 rfl k) ?_
                                                refine ST.lift (fun _ _ k => T_sipush (v := nI 224) d_Mo_answer_499 (by decide) k) ?_
                                                refine S_iaddN d_Mo_answer_502 ?_
                                                refine S_topi (y := nI 1184) (by decide) ?_
                                                refine S_virtual (as := [.ref 434, .int (nI 1184)]) (rest := []) (b := 373) d_Mo_answer_503 rfl (jw_Mo_publicTo.jo (by decide)) lm_Mo_492 ji_Mo_publicTo js_Mo_publicTo (w373 _) rfl rfl rfl (Nat.le_of_ble_eq_true rfl) (by decide) (by decide) (c_Mo_publicTo G u127 434 1280 (by decide) a434 (by omega) 1184 (by omega)) (fun r v' hq => ?_)
                                                rw [hq.1, hq.2]
                                                clear hq r v'
                                                show ST G mi_Mo_answer 506 [(5, .int (nI k119)), (4, .int (nI 960)), (3, .int (nI k16)), (2, .int (nI 3)), (0, .ref 373), (1, .int (nI 3))] [] u127 0 0 _
                                                refine ST.lift (fun _ _ k => T_aload_n (v := .ref 373) d_Mo_answer_506 rfl (Or.inr ⟨_, rfl⟩) k) ?_
                                                refine ST.lift (fun _ _ k => T_bipush (v := nI 12) d_Mo_answer_507 (by decide) k) ?_
                                                refine ST.lift (fun _ _ k => T_aload_n (v := .ref 373) d_Mo_answer_509 rfl (Or.inr ⟨_, rfl⟩) k) ?_
                                                refine S_getfield d_Mo_answer_510 fg_Mo_419 (w373 _) rfl ?_
                                                refine ST.lift (fun _ _ k => T_bipush (v := nI 96) d_Mo_answer_513 (by decide) k) ?_
                                                refine ST.lift (fun _ _ k => T_iload_n d_Mo_answer_515 rfl k) ?_
                                                refine S_imulN d_Mo_answer_516 ?_
                                                refine S_topi (y := nI 288) (by decide) ?_
                                                refine ST.lift (fun _ _ k => T_bipush (v := nI 64) d_Mo_answer_517 (by decide) k) ?_
                                                refine S_iaddN d_Mo_answer_519 ?_
                                                refine S_topi (y := nI 352) (by decide) ?_
                                                refine S_virtual (as := [.int (nI 12), .ref 433, .int (nI 352)]) (rest := []) (b := 373) d_Mo_answer_520 rfl (jw_Mo_decode.jo (by decide)) lm_Mo_502 ji_Mo_decode js_Mo_decode (w373 _) rfl rfl rfl (Nat.le_of_ble_eq_true rfl) (by decide) (by decide) (c_Mo_decode G u127 12 (by omega) 433 384 (by decide) a433 (by omega) 352 (by omega)) (fun r v' hq => ?_)
                                                obtain ⟨z132, hz132, hr, hv⟩ := hq
                                                rw [hr, hv]
                                                clear hr hv r v'
                                                show ST G mi_Mo_answer 523 [(5, .int (nI k119)), (4, .int (nI 960)), (3, .int (nI k16)), (2, .int (nI 3)), (0, .ref 373), (1, .int (nI 3))] [.int (nI z132)] u127 0 0 _
                                                refine ST.lift (fun _ _ k => T_pop d_Mo_answer_523 rfl k) ?_
                                                refine ST.lift (fun _ _ k => T_aload_n (v := .ref 373) d_Mo_answer_524 rfl (Or.inr ⟨_, rfl⟩) k) ?_
                                                refine ST.lift (fun _ _ k => T_aload_n (v := .ref 373) d_Mo_answer_525 rfl (Or.inr ⟨_, rfl⟩) k) ?_
                                                refine S_getfield d_Mo_answer_526 fg_Mo_470 (w373 _) rfl ?_
                                                refine ST.lift (fun _ _ k => T_iconst (v := nI 0) d_Mo_answer_529 (by decide) k) ?_
                                                refine S_virtual (as := [.ref 449, .int (nI 0)]) (rest := []) (b := 373) d_Mo_answer_530 rfl (jw_Mo_takeScalar.jo (by decide)) lm_Mo_533 ji_Mo_takeScalar js_Mo_takeScalar (w373 _) rfl rfl rfl (Nat.le_of_ble_eq_true rfl) (by decide) (by decide) (c_Mo_takeScalar G u127 449 16 (by decide) a449 (by omega) 0 (by omega)) (fun r v' hq => ?_)
                                                rw [hq.1, hq.2]
                                                clear hq r v'
                                                show ST G mi_Mo_answer 533 [(5, .int (nI k119)), (4, .int (nI 960)), (3, .int (nI k16)), (2, .int (nI 3)), (0, .ref 373), (1, .int (nI 3))] [] u127 0 0 _
                                                refine ST.lift (fun _ _ k => T_aload_n (v := .ref 373) d_Mo_answer_533 rfl (Or.inr ⟨_, rfl⟩) k) ?_
                                                refine ST.lift (fun _ _ k => T_iconst (v := nI 0) d_Mo_answer_534 (by decide) k) ?_
                                                refine ST.lift (fun _ _ k => T_bipush (v := nI 12) d_Mo_answer_535 (by decide) k) ?_
                                                refine S_virtual (as := [.int (nI 0), .int (nI 12)]) (rest := []) (b := 373) d_Mo_answer_537 rfl (jw_Mo_share.jo (by decide)) lm_Mo_582 ji_Mo_share js_Mo_share (w373 _) rfl rfl rfl (Nat.le_of_ble_eq_true rfl) (by decide) (by decide) (c_Mo_share G u127 0 (by omega) 12 (by omega)) (fun r v' hq => ?_)
                                                rw [hq.1, hq.2]
                                                clear hq r v'
                                                show ST G mi_Mo_answer 540 [(5, .int (nI k119)), (4, .int (nI 960)), (3, .int (nI k16)), (2, .int (nI 3)), (0, .ref 373), (1, .int (nI 3))] [] u127 0 0 _
                                                refine ST.lift (fun _ _ k => T_aload_n (v := .ref 373) d_Mo_answer_540 rfl (Or.inr ⟨_, rfl⟩) k) ?_
                                                refine ST.lift (fun _ _ k => T_aload_n (v := .ref 373) d_Mo_answer_541 rfl (Or.inr ⟨_, rfl⟩) k) ?_
                                                refine S_getfield d_Mo_answer_542 fg_Mo_322 (w373 _) rfl ?_
                                                refine ST.lift (fun _ _ k => T_iconst (v := nI 0) d_Mo_answer_545 (by decide) k) ?_
                                                refine S_virtual (as := [.ref 403, .int (nI 0)]) (rest := []) (b := 373) d_Mo_answer_546 rfl (jw_Mo_takeScalar.jo (by decide)) lm_Mo_533 ji_Mo_takeScalar js_Mo_takeScalar (w373 _) rfl rfl rfl (Nat.le_of_ble_eq_true rfl) (by decide) (by decide) (c_Mo_takeScalar G u127 403 16 (by decide) a403 (by omega) 0 (by omega)) (fun r v' hq => ?_)
                                                rw [hq.1, hq.2]
                                                clear hq r v'
                                                show ST G mi_Mo_answer 549 [(5, .int (nI k119)), (4, .int (nI 960)), (3, .int (nI k16)), (2, .int (nI 3)), (0, .ref 373), (1, .int (nI 3))] [] u127 0 0 _
                                                refine ST.lift (fun _ _ k => T_aload_n (v := .ref 373) d_Mo_answer_549 rfl (Or.inr ⟨_, rfl⟩) k) ?_
                                                refine ST.lift (fun _ _ k => T_bipush (v := nI 32) d_Mo_answer_550 (by decide) k) ?_
                                                refine ST.lift (fun _ _ k => T_bipush (v := nI 12) d_Mo_answer_552 (by decide) k) ?_
                                                refine S_virtual (as := [.int (nI 32), .int (nI 12)]) (rest := []) (b := 373) d_Mo_answer_554 rfl (jw_Mo_share.jo (by decide)) lm_Mo_582 ji_Mo_share js_Mo_share (w373 _) rfl rfl rfl (Nat.le_of_ble_eq_true rfl) (by decide) (by decide) (c_Mo_share G u127 32 (by omega) 12 (by omega)) (fun r v' hq => ?_)
                                                rw [hq.1, hq.2]
                                                clear hq r v'
                                                show ST G mi_Mo_answer 557 [(5, .int (nI k119)), (4, .int (nI 960)), (3, .int (nI k16)), (2, .int (nI 3)), (0, .ref 373), (1, .int (nI 3))] [] u127 0 0 _
                                                refine ST.lift (fun _ _ k => T_aload_n (v := .ref 373) d_Mo_answer_557 rfl (Or.inr ⟨_, rfl⟩) k) ?_
                                                refine ST.lift (fun _ _ k => T_bipush (v := nI 12) d_Mo_answer_558 (by decide) k) ?_
                                                refine ST.lift (fun _ _ k => T_aload_n (v := .ref 373) d_Mo_answer_560 rfl (Or.inr ⟨_, rfl⟩) k) ?_
                                                refine S_getfield d_Mo_answer_561 fg_Mo_335 (w373 _) rfl ?_
                                                refine ST.lift (fun _ _ k => T_iconst (v := nI 0) d_Mo_answer_564 (by decide) k) ?_
                                                refine S_virtual (as := [.int (nI 12), .ref 407, .int (nI 0)]) (rest := []) (b := 373) d_Mo_answer_565 rfl (jw_Mo_decode.jo (by decide)) lm_Mo_502 ji_Mo_decode js_Mo_decode (w373 _) rfl rfl rfl (Nat.le_of_ble_eq_true rfl) (by decide) (by decide) (c_Mo_decode G u127 12 (by omega) 407 192 (by decide) a407 (by omega) 0 (by omega)) (fun r v' hq => ?_)
                                                obtain ⟨z133, hz133, hr, hv⟩ := hq
                                                rw [hr, hv]
                                                clear hr hv r v'
                                                show ST G mi_Mo_answer 568 [(5, .int (nI k119)), (4, .int (nI 960)), (3, .int (nI k16)), (2, .int (nI 3)), (0, .ref 373), (1, .int (nI 3))] [.int (nI z133)] u127 0 0 _
                                                refine ST.lift (fun _ _ k => T_pop d_Mo_answer_568 rfl k) ?_
                                                refine ST.lift (fun _ _ k => T_aload_n (v := .ref 373) d_Mo_answer_569 rfl (Or.inr ⟨_, rfl⟩) k) ?_
                                                refine ST.lift (fun _ _ k => T_aload_n (v := .ref 373) d_Mo_answer_570 rfl (Or.inr ⟨_, rfl⟩) k) ?_
                                                refine S_getfield d_Mo_answer_571 fg_Mo_470 (w373 _) rfl ?_
                                                refine ST.lift (fun _ _ k => T_iconst (v := nI 0) d_Mo_answer_574 (by decide) k) ?_
                                                refine S_virtual (as := [.ref 449, .int (nI 0)]) (rest := []) (b := 373) d_Mo_answer_575 rfl (jw_Mo_takeScalar.jo (by decide)) lm_Mo_533 ji_Mo_takeScalar js_Mo_takeScalar (w373 _) rfl rfl rfl (Nat.le_of_ble_eq_true rfl) (by decide) (by decide) (c_Mo_takeScalar G u127 449 16 (by decide) a449 (by omega) 0 (by omega)) (fun r v' hq => ?_)
                                                rw [hq.1, hq.2]
                                                clear hq r v'
                                                show ST G mi_Mo_answer 578 [(5, .int (nI k119)), (4, .int (nI 960)), (3, .int (nI k16)), (2, .int (nI 3)), (0, .ref 373), (1, .int (nI 3))] [] u127 0 0 _
                                                refine ST.lift (fun _ _ k => T_aload_n (v := .ref 373) d_Mo_answer_578 rfl (Or.inr ⟨_, rfl⟩) k) ?_
                                                refine ST.lift (fun _ _ k => T_bipush (v := nI 64) d_Mo_answer_579 (by decide) k) ?_
                                                refine ST.lift (fun _ _ k => T_bipush (v := nI 12) d_Mo_answer_581 (by decide) k) ?_
                                                refine S_virtual (as := [.int (nI 64), .int (nI 12)]) (rest := []) (b := 373) d_Mo_answer_583 rfl (jw_Mo_share.jo (by decide)) lm_Mo_582 ji_Mo_share js_Mo_share (w373 _) rfl rfl rfl (Nat.le_of_ble_eq_true rfl) (by decide) (by decide) (c_Mo_share G u127 64 (by omega) 12 (by omega)) (fun r v' hq => ?_)
                                                rw [hq.1, hq.2]
                                                clear hq r v'
                                                show ST G mi_Mo_answer 586 [(5, .int (nI k119)), (4, .int (nI 960)), (3, .int (nI k16)), (2, .int (nI 3)), (0, .ref 373), (1, .int (nI 3))] [] u127 0 0 _
                                                refine ST.lift (fun _ _ k => T_aload_n (v := .ref 373) d_Mo_answer_586 rfl (Or.inr ⟨_, rfl⟩) k) ?_
                                                refine ST.lift (fun _ _ k => T_aload_n (v := .ref 373) d_Mo_answer_587 rfl (Or.inr ⟨_, rfl⟩) k) ?_
                                                refine S_getfield d_Mo_answer_588 fg_Mo_335 (w373 _) rfl ?_
                                                refine ST.lift (fun _ _ k => T_iconst (v := nI 0) d_Mo_answer_591 (by decide) k) ?_
                                                refine ST.lift (fun _ _ k => T_aload_n (v := .ref 373) d_Mo_answer_592 rfl (Or.inr ⟨_, rfl⟩) k) ?_
                                                refine S_getfield d_Mo_answer_593 fg_Mo_419 (w373 _) rfl ?_
                                                refine ST.lift (fun _ _ k => T_bipush (v := nI 96) d_Mo_answer_596 (by decide) k) ?_
                                                refine ST.lift (fun _ _ k => T_iload_n d_Mo_answer_598 rfl k) ?_
                                                refine S_imulN d_Mo_answer_599 ?_
                                                refine S_topi (y := nI 288) (by decide) ?_
                                                refine ST.lift (fun _ _ k => T_aload_n (v := .ref 373) d_Mo_answer_600 rfl (Or.inr ⟨_, rfl⟩) k) ?_
                                                refine S_getfield d_Mo_answer_601 fg_Mo_325 (w373 _) rfl ?_
                                                refine ST.lift (fun _ _ k => T_iconst (v := nI 0) d_Mo_answer_604 (by decide) k) ?_
                                                refine ST.lift (fun _ _ k => T_aload_n (v := .ref 373) d_Mo_answer_605 rfl (Or.inr ⟨_, rfl⟩) k) ?_
                                                refine S_getfield d_Mo_answer_606 fg_Mo_422 (w373 _) rfl ?_
                                                refine ST.lift (fun _ _ k => T_iload d_Mo_answer_609 rfl k) ?_
                                                refine S_virtual (as := [.ref 407, .int (nI 0), .ref 433, .int (nI 288), .ref 404, .int (nI 0), .ref 434, .int (nI 960)]) (rest := []) (b := 373) d_Mo_answer_611 rfl (jw_Mo_preambleOf.jo (by decide)) lm_Mo_585 ji_Mo_preambleOf js_Mo_preambleOf (w373 _) rfl rfl rfl (Nat.le_of_ble_eq_true rfl) (by decide) (by decide) (c_Mo_preambleOf G u127 407 192 (by decide) a407 (by omega) 0 (by omega) 433 384 (by decide) a433 (by omega) 288 (by omega) 404 32 (by decide) a404 (by omega) 0 (by omega) 434 1280 (by decide) a434 (by omega) 960 (by omega) 0 es_u127 (by omega) hv128) (fun r u134 hq => ?_)
                                                obtain ⟨hr, hv135, hm136, es_u134⟩ := hq
                                                rw [hr]
                                                clear hr r
                                                have hm138 := hm131.go hm136 (by intro i hi; simp only [List.mem_cons, List.not_mem_nil, or_false] at hi ⊢ <;> omega)
                                                show ST G mi_Mo_answer 614 [(5, .int (nI k119)), (4, .int (nI 960)), (3, .int (nI k16)), (2, .int (nI 3)), (0, .ref 373), (1, .int (nI 3))] [] u134 0 0 _
                                                refine ST.lift (fun _ _ k => T_aload_n (v := .ref 373) d_Mo_answer_614 rfl (Or.inr ⟨_, rfl⟩) k) ?_
                                                refine S_virtual (as := []) (rest := []) (b := 373) d_Mo_answer_615 rfl (jw_Mo_derive.jo (by decide)) lm_Mo_589 ji_Mo_derive js_Mo_derive (w373 _) rfl rfl rfl (Nat.le_of_ble_eq_true rfl) (by decide) (by decide) (c_Mo_derive G u134 0 es_u134 (by omega) hv135) (fun r u139 hq => ?_)
                                                obtain ⟨hr, hv140, hm141, es_u139⟩ := hq
                                                rw [hr]
                                                clear hr r
                                                have hm143 := hm138.go hm141 (by intro i hi; simp only [List.mem_cons, List.not_mem_nil, or_false] at hi ⊢ <;> omega)
                                                show ST G mi_Mo_answer 618 [(5, .int (nI k119)), (4, .int (nI 960)), (3, .int (nI k16)), (2, .int (nI 3)), (0, .ref 373), (1, .int (nI 3))] [] u139 0 0 _
                                                refine ST.lift (fun _ _ k => T_iconst (v := nI 0) d_Mo_answer_618 (by decide) k) ?_
                                                refine ST.lift (fun _ _ k => T_istore (L' := [(5, .int (nI 0)), (4, .int (nI 960)), (3, .int (nI k16)), (2, .int (nI 3)), (0, .ref 373), (1, .int (nI 3))]) d_Mo_answer_619 (by decide) rfl k) ?_
                                                have lp147 : ∀ (n145 k144 : Nat), 64 - k144 = n145 → 0 ≤ k144 ∧ k144 ≤ 0 + 64 → ST G mi_Mo_answer 621 [(5, .int (nI k144)), (4, .int (nI 960)), (3, .int (nI k16)), (2, .int (nI 3)), (0, .ref 373), (1, .int (nI 3))] [] u139 0 0 Q := by
                                                  intro n145
                                                  induction n145 using Nat.strongRecOn with
                                                  | _ n145 ih146 =>
                                                    intro k144 h148 h149
                                                    refine ST.lift (fun _ _ k => T_iload d_Mo_answer_621 rfl k) ?_
                                                    refine ST.lift (fun _ _ k => T_bipush (v := nI 64) d_Mo_answer_623 (by decide) k) ?_
                                                    refine S_icmp_geN d_Mo_answer_625 rfl (by omega) (by omega) (fun c150 => ?_) (fun c150 => ?_)
                                                    · refine ST.lift (fun _ _ k => T_aload_n (v := .ref 373) d_Mo_answer_693 rfl (Or.inr ⟨_, rfl⟩) k) ?_
                                                      refine S_getfield d_Mo_answer_694 fg_Mo_395 (w373 _) rfl ?_
                                                      refine ST.lift (fun _ _ k => T_iload_n d_Mo_answer_697 rfl k) ?_
                                                      refine ST.lift (fun _ _ k => T_iconst (v := nI 1) d_Mo_answer_698 (by decide) k) ?_
                                                      refine S_xstore (k := 3) (y := (nI 1)) (v' := va_up u139 103 (nI 1)) (Or.inr ⟨rfl, by decide, d_Mo_answer_699⟩) (by decide) rfl (w425 _) (by decide) (by decide) (x425_3 _ _) ?_
                                                      have hv155 := hv140.off (j := 103) (x := (nI 1)) (by decide)
                                                      have hm156 := hm143.go (mdf.up (v := u139) (j := 103) (x := (nI 1))) (by intro i hi; simp only [List.mem_cons, List.not_mem_nil, or_false] at hi ⊢ <;> omega)
                                                      have e_u154 : (va_up u139 103 (nI 1)) 103 = (nI 1) := by simp [va_up]
                                                      have e157 : (va_up u139 103 (nI 1)) 67 = nI 0 := by simp only [va_up]; exact es_u139
                                                      generalize va_up u139 103 (nI 1) = u154 at hv155 hm156 e_u154 e157 ⊢
                                                      refine ST.lift (fun _ _ k => T_iconst (v := nI 0) d_Mo_answer_700 (by decide) k) ?_
                                                      exact S_ret d_Mo_answer_701 rfl rfl (by decide) (by decide) (hQ _ _ hv155 hm156 (e157.trans (congrArg nI (by omega))))
                                                    · refine ST.lift (fun _ _ k => T_aload_n (v := .ref 373) d_Mo_answer_628 rfl (Or.inr ⟨_, rfl⟩) k) ?_
                                                      refine S_getfield d_Mo_answer_629 fg_Mo_422 (w373 _) rfl ?_
                                                      refine ST.lift (fun _ _ k => T_iload d_Mo_answer_632 rfl k) ?_
                                                      refine ST.lift (fun _ _ k => T_sipush (v := nI 256) d_Mo_answer_634 (by decide) k) ?_
                                                      refine S_iaddN d_Mo_answer_637 ?_
                                                      refine S_topi (y := nI 1216) (by decide) ?_
                                                      refine ST.lift (fun _ _ k => T_iload d_Mo_answer_638 rfl k) ?_
                                                      refine S_iaddN d_Mo_answer_640 ?_
                                                      refine ST.lift (fun _ _ k => T_aload_n (v := .ref 373) d_Mo_answer_641 rfl (Or.inr ⟨_, rfl⟩) k) ?_
                                                      refine S_getfield d_Mo_answer_642 fg_Mo_458 (w373 _) rfl ?_
                                                      refine ST.lift (fun _ _ k => T_iload d_Mo_answer_645 rfl k) ?_
                                                      refine S_iaload d_Mo_answer_647 a445 (vp_in_nI (by omega) (by omega)) (fun z158 => ?_)
                                                      refine S_iastore d_Mo_answer_648 (by decide) a434 (vp_in_nI (by omega) (by omega)) ?_
                                                      refine ST.lift (fun _ _ k => T_aload_n (v := .ref 373) d_Mo_answer_649 rfl (Or.inr ⟨_, rfl⟩) k) ?_
                                                      refine S_getfield d_Mo_answer_650 fg_Mo_428 (w373 _) rfl ?_
                                                      refine ST.lift (fun _ _ k => T_bipush (v := nI 64) d_Mo_answer_653 (by decide) k) ?_
                                                      refine ST.lift (fun _ _ k => T_iload_n d_Mo_answer_655 rfl k) ?_
                                                      refine S_imulN d_Mo_answer_656 ?_
                                                      refine S_topi (y := nI 192) (by decide) ?_
                                                      refine ST.lift (fun _ _ k => T_iload d_Mo_answer_657 rfl k) ?_
                                                      refine S_iaddN d_Mo_answer_659 ?_
                                                      refine ST.lift (fun _ _ k => T_aload_n (v := .ref 373) d_Mo_answer_660 rfl (Or.inr ⟨_, rfl⟩) k) ?_
                                                      refine S_getfield d_Mo_answer_661 fg_Mo_461 (w373 _) rfl ?_
                                                      refine ST.lift (fun _ _ k => T_iload d_Mo_answer_664 rfl k) ?_
                                                      refine S_iaload d_Mo_answer_666 a446 (vp_in_nI (by omega) (by omega)) (fun z159 => ?_)
                                                      refine S_iastore d_Mo_answer_667 (by decide) a436 (vp_in_nI (by omega) (by omega)) ?_
                                                      refine ST.lift (fun _ _ k => T_aload_n (v := .ref 373) d_Mo_answer_668 rfl (Or.inr ⟨_, rfl⟩) k) ?_
                                                      refine S_getfield d_Mo_answer_669 fg_Mo_434 (w373 _) rfl ?_
                                                      refine ST.lift (fun _ _ k => T_bipush (v := nI 64) d_Mo_answer_672 (by decide) k) ?_
                                                      refine ST.lift (fun _ _ k => T_iload_n d_Mo_answer_674 rfl k) ?_
                                                      refine S_imulN d_Mo_answer_675 ?_
                                                      refine S_topi (y := nI 192) (by decide) ?_
                                                      refine ST.lift (fun _ _ k => T_iload d_Mo_answer_676 rfl k) ?_
                                                      refine S_iaddN d_Mo_answer_678 ?_
                                                      refine ST.lift (fun _ _ k => T_aload_n (v := .ref 373) d_Mo_answer_679 rfl (Or.inr ⟨_, rfl⟩) k) ?_
                                                      refine S_getfield d_Mo_answer_680 fg_Mo_464 (w373 _) rfl ?_
                                                      refine ST.lift (fun _ _ k => T_iload d_Mo_answer_683 rfl k) ?_
                                                      refine S_iaload d_Mo_answer_685 a447 (vp_in_nI (by omega) (by omega)) (fun z160 => ?_)
                                                      refine S_iastore d_Mo_answer_686 (by decide) a438 (vp_in_nI (by omega) (by omega)) ?_
                                                      refine S_iincN (a := k144) (b := 1) (L' := [(5, .int (nI (k144 + 1))), (4, .int (nI 960)), (3, .int (nI k16)), (2, .int (nI 3)), (0, .ref 373), (1, .int (nI 3))]) d_Mo_answer_687 (by decide) rfl rfl rfl ?_
                                                      refine ST.lift (fun _ _ k => T_goto (tgt := 621) d_Mo_answer_690 rfl k) ?_
                                                      exact ih146 (64 - (k144 + 1)) (by omega) (k144 + 1)  rfl (by omega)
                                                exact lp147 _ 0  rfl (by omega)
                                              · refine ST.lift (fun _ _ k => T_aload_n (v := .ref 373) d_Mo_answer_452 rfl (Or.inr ⟨_, rfl⟩) k) ?_
                                                refine S_getfield d_Mo_answer_453 fg_Mo_422 (w373 _) rfl ?_
                                                refine ST.lift (fun _ _ k => T_iload d_Mo_answer_456 rfl k) ?_
                                                refine ST.lift (fun _ _ k => T_sipush (v := nI 192) d_Mo_answer_458 (by decide) k) ?_
                                                refine S_iaddN d_Mo_answer_461 ?_
                                                refine S_topi (y := nI 1152) (by decide) ?_
                                                refine ST.lift (fun _ _ k => T_iload d_Mo_answer_462 rfl k) ?_
                                                refine S_iaddN d_Mo_answer_464 ?_
                                                refine ST.lift (fun _ _ k => T_aload_n (v := .ref 373) d_Mo_answer_465 rfl (Or.inr ⟨_, rfl⟩) k) ?_
                                                refine S_getfield d_Mo_answer_466 fg_Mo_55 (w373 _) rfl ?_
                                                refine ST.lift (fun _ _ k => T_iload d_Mo_answer_469 rfl k) ?_
                                                refine S_iaload d_Mo_answer_471 a383 (vp_in_nI (by omega) (by omega)) (fun z161 => ?_)
                                                refine S_iastore d_Mo_answer_472 (by decide) a434 (vp_in_nI (by omega) (by omega)) ?_
                                                refine S_iincN (a := k119) (b := 1) (L' := [(5, .int (nI (k119 + 1))), (4, .int (nI 960)), (3, .int (nI k16)), (2, .int (nI 3)), (0, .ref 373), (1, .int (nI 3))]) d_Mo_answer_473 (by decide) rfl rfl rfl ?_
                                                refine ST.lift (fun _ _ k => T_goto (tgt := 445) d_Mo_answer_476 rfl k) ?_
                                                exact ih121 (32 - (k119 + 1)) (by omega) (k119 + 1)  rfl (by omega)
                                          exact lp122 _ 0  rfl (by omega)
                                        · refine ST.lift (fun _ _ k => T_aload_n (v := .ref 373) d_Mo_answer_398 rfl (Or.inr ⟨_, rfl⟩) k) ?_
                                          refine S_getfield d_Mo_answer_399 fg_Mo_422 (w373 _) rfl ?_
                                          refine ST.lift (fun _ _ k => T_iload d_Mo_answer_402 rfl k) ?_
                                          refine ST.lift (fun _ _ k => T_bipush (v := nI 96) d_Mo_answer_404 (by decide) k) ?_
                                          refine S_iaddN d_Mo_answer_406 ?_
                                          refine S_topi (y := nI 1056) (by decide) ?_
                                          refine ST.lift (fun _ _ k => T_iload d_Mo_answer_407 rfl k) ?_
                                          refine S_iaddN d_Mo_answer_409 ?_
                                          refine ST.lift (fun _ _ k => T_aload_n (v := .ref 373) d_Mo_answer_410 rfl (Or.inr ⟨_, rfl⟩) k) ?_
                                          refine S_getfield d_Mo_answer_411 fg_Mo_335 (w373 _) rfl ?_
                                          refine ST.lift (fun _ _ k => T_bipush (v := nI 96) d_Mo_answer_414 (by decide) k) ?_
                                          refine ST.lift (fun _ _ k => T_iload d_Mo_answer_416 rfl k) ?_
                                          refine S_iaddN d_Mo_answer_418 ?_
                                          refine S_iaload d_Mo_answer_419 a407 (vp_in_nI (by omega) (by omega)) (fun z162 => ?_)
                                          refine ST.lift (fun _ _ k => T_aload_n (v := .ref 373) d_Mo_answer_420 rfl (Or.inr ⟨_, rfl⟩) k) ?_
                                          refine S_getfield d_Mo_answer_421 fg_Mo_467 (w373 _) rfl ?_
                                          refine ST.lift (fun _ _ k => T_bipush (v := nI 32) d_Mo_answer_424 (by decide) k) ?_
                                          refine ST.lift (fun _ _ k => T_iload d_Mo_answer_426 rfl k) ?_
                                          refine S_iaddN d_Mo_answer_428 ?_
                                          refine S_iaload d_Mo_answer_429 a448 (vp_in_nI (by omega) (by omega)) (fun z163 => ?_)
                                          refine ST.lift (fun _ _ k => T_ixor d_Mo_answer_430 k) (S_anyi fun z164 => ?_)
                                          refine S_iastore d_Mo_answer_431 (by decide) a434 (vp_in_nI (by omega) (by omega)) ?_
                                          refine S_iincN (a := k104) (b := 1) (L' := [(5, .int (nI (k104 + 1))), (4, .int (nI 960)), (3, .int (nI k16)), (2, .int (nI 3)), (0, .ref 373), (1, .int (nI 3))]) d_Mo_answer_432 (by decide) rfl rfl rfl ?_
                                          refine ST.lift (fun _ _ k => T_goto (tgt := 391) d_Mo_answer_435 rfl k) ?_
                                          exact ih106 (96 - (k104 + 1)) (by omega) (k104 + 1)  rfl (by omega)
                                    exact lp107 _ 0  rfl (by omega)
                                  · refine ST.lift (fun _ _ k => T_aload_n (v := .ref 373) d_Mo_answer_354 rfl (Or.inr ⟨_, rfl⟩) k) ?_
                                    refine S_getfield d_Mo_answer_355 fg_Mo_422 (w373 _) rfl ?_
                                    refine ST.lift (fun _ _ k => T_iload d_Mo_answer_358 rfl k) ?_
                                    refine ST.lift (fun _ _ k => T_bipush (v := nI 64) d_Mo_answer_360 (by decide) k) ?_
                                    refine S_iaddN d_Mo_answer_362 ?_
                                    refine S_topi (y := nI 1024) (by decide) ?_
                                    refine ST.lift (fun _ _ k => T_iload d_Mo_answer_363 rfl k) ?_
                                    refine S_iaddN d_Mo_answer_365 ?_
                                    refine ST.lift (fun _ _ k => T_aload_n (v := .ref 373) d_Mo_answer_366 rfl (Or.inr ⟨_, rfl⟩) k) ?_
                                    refine S_getfield d_Mo_answer_367 fg_Mo_325 (w373 _) rfl ?_
                                    refine ST.lift (fun _ _ k => T_iload d_Mo_answer_370 rfl k) ?_
                                    refine S_iaload d_Mo_answer_372 a404 (vp_in_nI (by omega) (by omega)) (fun z165 => ?_)
                                    refine ST.lift (fun _ _ k => T_aload_n (v := .ref 373) d_Mo_answer_373 rfl (Or.inr ⟨_, rfl⟩) k) ?_
                                    refine S_getfield d_Mo_answer_374 fg_Mo_467 (w373 _) rfl ?_
                                    refine ST.lift (fun _ _ k => T_iload d_Mo_answer_377 rfl k) ?_
                                    refine S_iaload d_Mo_answer_379 a448 (vp_in_nI (by omega) (by omega)) (fun z166 => ?_)
                                    refine ST.lift (fun _ _ k => T_ixor d_Mo_answer_380 k) (S_anyi fun z167 => ?_)
                                    refine S_iastore d_Mo_answer_381 (by decide) a434 (vp_in_nI (by omega) (by omega)) ?_
                                    refine S_iincN (a := k94) (b := 1) (L' := [(5, .int (nI (k94 + 1))), (4, .int (nI 960)), (3, .int (nI k16)), (2, .int (nI 3)), (0, .ref 373), (1, .int (nI 3))]) d_Mo_answer_382 (by decide) rfl rfl rfl ?_
                                    refine ST.lift (fun _ _ k => T_goto (tgt := 347) d_Mo_answer_385 rfl k) ?_
                                    exact ih96 (32 - (k94 + 1)) (by omega) (k94 + 1)  rfl (by omega)
                              exact lp97 _ 0  rfl (by omega)
                            · refine ST.lift (fun _ _ k => T_aload_n (v := .ref 373) d_Mo_answer_299 rfl (Or.inr ⟨_, rfl⟩) k) ?_
                              refine S_getfield d_Mo_answer_300 fg_Mo_422 (w373 _) rfl ?_
                              refine ST.lift (fun _ _ k => T_iload d_Mo_answer_303 rfl k) ?_
                              refine ST.lift (fun _ _ k => T_bipush (v := nI 32) d_Mo_answer_305 (by decide) k) ?_
                              refine S_iaddN d_Mo_answer_307 ?_
                              refine S_topi (y := nI 992) (by decide) ?_
                              refine ST.lift (fun _ _ k => T_iload d_Mo_answer_308 rfl k) ?_
                              refine S_iaddN d_Mo_answer_310 ?_
                              refine ST.lift (fun _ _ k => T_aload_n (v := .ref 373) d_Mo_answer_311 rfl (Or.inr ⟨_, rfl⟩) k) ?_
                              refine S_getfield d_Mo_answer_312 fg_Mo_55 (w373 _) rfl ?_
                              refine ST.lift (fun _ _ k => T_iload d_Mo_answer_315 rfl k) ?_
                              refine S_iaload d_Mo_answer_317 a383 (vp_in_nI (by omega) (by omega)) (fun z168 => ?_)
                              refine S_iastore d_Mo_answer_318 (by decide) a434 (vp_in_nI (by omega) (by omega)) ?_
                              refine S_iincN (a := k81) (b := 1) (L' := [(5, .int (nI (k81 + 1))), (4, .int (nI 960)), (3, .int (nI k16)), (2, .int (nI 3)), (0, .ref 373), (1, .int (nI 3))]) d_Mo_answer_319 (by decide) rfl rfl rfl ?_
                              refine ST.lift (fun _ _ k => T_goto (tgt := 292) d_Mo_answer_322 rfl k) ?_
                              exact ih83 (32 - (k81 + 1)) (by omega) (k81 + 1)  rfl (by omega)
                        exact lp84 _ 0  rfl (by omega)
                      · refine ST.lift (fun _ _ k => T_aload_n (v := .ref 373) d_Mo_answer_262 rfl (Or.inr ⟨_, rfl⟩) k) ?_
                        refine S_getfield d_Mo_answer_263 fg_Mo_422 (w373 _) rfl ?_
                        refine ST.lift (fun _ _ k => T_iload d_Mo_answer_266 rfl k) ?_
                        refine ST.lift (fun _ _ k => T_iload d_Mo_answer_268 rfl k) ?_
                        refine S_iaddN d_Mo_answer_270 ?_
                        refine ST.lift (fun _ _ k => T_aload_n (v := .ref 373) d_Mo_answer_271 rfl (Or.inr ⟨_, rfl⟩) k) ?_
                        refine S_getfield d_Mo_answer_272 fg_Mo_146 (w373 _) rfl ?_
                        refine ST.lift (fun _ _ k => T_iload d_Mo_answer_275 rfl k) ?_
                        refine S_iaload d_Mo_answer_277 a394 (vp_in_nI (by omega) (by omega)) (fun z169 => ?_)
                        refine S_iastore d_Mo_answer_278 (by decide) a434 (vp_in_nI (by omega) (by omega)) ?_
                        refine S_iincN (a := k68) (b := 1) (L' := [(5, .int (nI (k68 + 1))), (4, .int (nI 960)), (3, .int (nI k16)), (2, .int (nI 3)), (0, .ref 373), (1, .int (nI 3))]) d_Mo_answer_279 (by decide) rfl rfl rfl ?_
                        refine ST.lift (fun _ _ k => T_goto (tgt := 255) d_Mo_answer_282 rfl k) ?_
                        exact ih70 (32 - (k68 + 1)) (by omega) (k68 + 1)  rfl (by omega)
                  exact lp71 _ 0  rfl (by omega)
                refine S_if_ne d_Mo_answer_132 rfl (fun c26 => ?_) (fun c26 => ?_)
                · exact J211_60 u7 hv8 hm9 e10 (nI k17)
                · refine ST.lift (fun _ _ k => T_aload_n (v := .ref 373) d_Mo_answer_135 rfl (Or.inr ⟨_, rfl⟩) k) ?_
                  refine S_virtual (as := []) (rest := []) (b := 373) d_Mo_answer_136 rfl (jw_Mo_chance.jo (by decide)) lm_Mo_304 ji_Mo_chance js_Mo_chance (w373 _) rfl rfl rfl (Nat.le_of_ble_eq_true rfl) (by decide) (by decide) (c_Mo_chance G u7 0 e10 (by omega) hv8) (fun r u170 hq => ?_)
                  obtain ⟨hr, hv171, hm172, es_u170⟩ := hq
                  rw [hr]
                  clear hr r
                  have hm174 := hm9.go hm172 (by intro i hi; simp only [List.mem_cons, List.not_mem_nil, or_false] at hi ⊢ <;> omega)
                  have e175 : u170 66 = nI 0 := (hm172 66 (by decide)).trans e11
                  have e176 : u170 111 = nI 1 := (hm172 111 (by decide)).trans e_u7
                  have e177 : u170 91 = nI k16 := (hm172 91 (by decide)).trans ek16
                  show ST G mi_Mo_answer 139 [(4, .int (nI k17)), (3, .int (nI k16)), (2, .int (nI 3)), (0, .ref 373), (1, .int (nI 3))] [] u170 0 0 _
                  refine ST.lift (fun _ _ k => T_iconst (v := nI 0) d_Mo_answer_139 (by decide) k) ?_
                  refine ST.lift (fun _ _ k => T_istore (L' := [(4, .int (nI 0)), (3, .int (nI k16)), (2, .int (nI 3)), (0, .ref 373), (1, .int (nI 3))]) d_Mo_answer_140 (by decide) rfl k) ?_
                  have lp181 : ∀ (n179 k178 : Nat), 64 - k178 = n179 → 0 ≤ k178 ∧ k178 ≤ 0 + 64 → ST G mi_Mo_answer 142 [(4, .int (nI k178)), (3, .int (nI k16)), (2, .int (nI 3)), (0, .ref 373), (1, .int (nI 3))] [] u170 0 0 Q := by
                    intro n179
                    induction n179 using Nat.strongRecOn with
                    | _ n179 ih180 =>
                      intro k178 h182 h183
                      refine ST.lift (fun _ _ k => T_iload d_Mo_answer_142 rfl k) ?_
                      refine ST.lift (fun _ _ k => T_bipush (v := nI 64) d_Mo_answer_144 (by decide) k) ?_
                      refine S_icmp_geN d_Mo_answer_146 rfl (by omega) (by omega) (fun c184 => ?_) (fun c184 => ?_)
                      · refine ST.lift (fun _ _ k => T_aload_n (v := .ref 373) d_Mo_answer_172 rfl (Or.inr ⟨_, rfl⟩) k) ?_
                        refine S_virtual (as := []) (rest := []) (b := 373) d_Mo_answer_173 rfl (jw_Mo_chanceScalar.jo (by decide)) lm_Mo_548 ji_Mo_chanceScalar js_Mo_chanceScalar (w373 _) rfl rfl rfl (Nat.le_of_ble_eq_true rfl) (by decide) (by decide) (c_Mo_chanceScalar G u170 0 es_u170 (by omega) hv171) (fun r u186 hq => ?_)
                        obtain ⟨hr, hv187, hm188, es_u186⟩ := hq
                        rw [hr]
                        clear hr r
                        have hm190 := hm174.go hm188 (by intro i hi; simp only [List.mem_cons, List.not_mem_nil, or_false] at hi ⊢ <;> omega)
                        have e191 : u186 66 = nI 0 := (hm188 66 (by decide)).trans e175
                        have e192 : u186 111 = nI 1 := (hm188 111 (by decide)).trans e176
                        have e193 : u186 91 = nI k16 := (hm188 91 (by decide)).trans e177
                        show ST G mi_Mo_answer 176 [(4, .int (nI k178)), (3, .int (nI k16)), (2, .int (nI 3)), (0, .ref 373), (1, .int (nI 3))] [] u186 0 0 _
                        refine ST.lift (fun _ _ k => T_aload_n (v := .ref 373) d_Mo_answer_176 rfl (Or.inr ⟨_, rfl⟩) k) ?_
                        refine ST.lift (fun _ _ k => T_aload_n (v := .ref 373) d_Mo_answer_177 rfl (Or.inr ⟨_, rfl⟩) k) ?_
                        refine S_getfield d_Mo_answer_178 fg_Mo_335 (w373 _) rfl ?_
                        refine ST.lift (fun _ _ k => T_iconst (v := nI 0) d_Mo_answer_181 (by decide) k) ?_
                        refine S_virtual (as := [.ref 407, .int (nI 0)]) (rest := []) (b := 373) d_Mo_answer_182 rfl (jw_Mo_publicTo.jo (by decide)) lm_Mo_492 ji_Mo_publicTo js_Mo_publicTo (w373 _) rfl rfl rfl (Nat.le_of_ble_eq_true rfl) (by decide) (by decide) (c_Mo_publicTo G u186 407 192 (by decide) a407 (by omega) 0 (by omega)) (fun r v' hq => ?_)
                        rw [hq.1, hq.2]
                        clear hq r v'
                        show ST G mi_Mo_answer 185 [(4, .int (nI k178)), (3, .int (nI k16)), (2, .int (nI 3)), (0, .ref 373), (1, .int (nI 3))] [] u186 0 0 _
                        refine ST.lift (fun _ _ k => T_bipush (v := nI 96) d_Mo_answer_185 (by decide) k) ?_
                        refine ST.lift (fun _ _ k => T_istore (L' := [(4, .int (nI 96)), (3, .int (nI k16)), (2, .int (nI 3)), (0, .ref 373), (1, .int (nI 3))]) d_Mo_answer_187 (by decide) rfl k) ?_
                        have lp197 : ∀ (n195 k194 : Nat), 192 - k194 = n195 → 96 ≤ k194 ∧ k194 ≤ 96 + 192 → ST G mi_Mo_answer 189 [(4, .int (nI k194)), (3, .int (nI k16)), (2, .int (nI 3)), (0, .ref 373), (1, .int (nI 3))] [] u186 0 0 Q := by
                          intro n195
                          induction n195 using Nat.strongRecOn with
                          | _ n195 ih196 =>
                            intro k194 h198 h199
                            refine ST.lift (fun _ _ k => T_iload d_Mo_answer_189 rfl k) ?_
                            refine ST.lift (fun _ _ k => T_sipush (v := nI 192) d_Mo_answer_191 (by decide) k) ?_
                            refine S_icmp_geN d_Mo_answer_194 rfl (by omega) (by omega) (fun c200 => ?_) (fun c200 => ?_)
                            · exact J211_60 u186 hv187 hm190 es_u186 (nI k194)
                            · refine ST.lift (fun _ _ k => T_aload_n (v := .ref 373) d_Mo_answer_197 rfl (Or.inr ⟨_, rfl⟩) k) ?_
                              refine S_getfield d_Mo_answer_198 fg_Mo_335 (w373 _) rfl ?_
                              refine ST.lift (fun _ _ k => T_iload d_Mo_answer_201 rfl k) ?_
                              refine ST.lift (fun _ _ k => T_iconst (v := nI 0) d_Mo_answer_203 (by decide) k) ?_
                              refine S_iastore d_Mo_answer_204 (by decide) a407 (vp_in_nI (by omega) (by omega)) ?_
                              refine S_iincN (a := k194) (b := 1) (L' := [(4, .int (nI (k194 + 1))), (3, .int (nI k16)), (2, .int (nI 3)), (0, .ref 373), (1, .int (nI 3))]) d_Mo_answer_205 (by decide) rfl rfl rfl ?_
                              refine ST.lift (fun _ _ k => T_goto (tgt := 189) d_Mo_answer_208 rfl k) ?_
                              exact ih196 (192 - (k194 + 1)) (by omega) (k194 + 1)  rfl (by omega)
                        exact lp197 _ 96  rfl (by omega)
                      · refine ST.lift (fun _ _ k => T_aload_n (v := .ref 373) d_Mo_answer_149 rfl (Or.inr ⟨_, rfl⟩) k) ?_
                        refine S_getfield d_Mo_answer_150 fg_Mo_335 (w373 _) rfl ?_
                        refine ST.lift (fun _ _ k => T_bipush (v := nI 32) d_Mo_answer_153 (by decide) k) ?_
                        refine ST.lift (fun _ _ k => T_iload d_Mo_answer_155 rfl k) ?_
                        refine S_iaddN d_Mo_answer_157 ?_
                        refine ST.lift (fun _ _ k => T_aload_n (v := .ref 373) d_Mo_answer_158 rfl (Or.inr ⟨_, rfl⟩) k) ?_
                        refine S_getfield d_Mo_answer_159 fg_Mo_55 (w373 _) rfl ?_
                        refine ST.lift (fun _ _ k => T_iload d_Mo_answer_162 rfl k) ?_
                        refine S_iaload d_Mo_answer_164 a383 (vp_in_nI (by omega) (by omega)) (fun z201 => ?_)
                        refine S_iastore d_Mo_answer_165 (by decide) a407 (vp_in_nI (by omega) (by omega)) ?_
                        refine S_iincN (a := k178) (b := 1) (L' := [(4, .int (nI (k178 + 1))), (3, .int (nI k16)), (2, .int (nI 3)), (0, .ref 373), (1, .int (nI 3))]) d_Mo_answer_166 (by decide) rfl rfl rfl ?_
                        refine ST.lift (fun _ _ k => T_goto (tgt := 142) d_Mo_answer_169 rfl k) ?_
                        exact ih180 (64 - (k178 + 1)) (by omega) (k178 + 1)  rfl (by omega)
                  exact lp181 _ 0  rfl (by omega)
              · refine ST.lift (fun _ _ k => T_aload_n (v := .ref 373) d_Mo_answer_100 rfl (Or.inr ⟨_, rfl⟩) k) ?_
                refine S_getfield d_Mo_answer_101 fg_Mo_335 (w373 _) rfl ?_
                refine ST.lift (fun _ _ k => T_iload d_Mo_answer_104 rfl k) ?_
                refine ST.lift (fun _ _ k => T_aload_n (v := .ref 373) d_Mo_answer_106 rfl (Or.inr ⟨_, rfl⟩) k) ?_
                refine S_getfield d_Mo_answer_107 fg_Mo_332 (w373 _) rfl ?_
                refine ST.lift (fun _ _ k => T_sipush (v := nI 192) d_Mo_answer_110 (by decide) k) ?_
                refine ST.lift (fun _ _ k => T_iload_n d_Mo_answer_113 rfl k) ?_
                refine S_imulN d_Mo_answer_114 ?_
                refine ST.lift (fun _ _ k => T_iload d_Mo_answer_115 rfl k) ?_
                refine S_iaddN d_Mo_answer_117 ?_
                refine S_iaload d_Mo_answer_118 a406 (vp_in_nI (by omega) (by omega)) (fun z202 => ?_)
                refine S_iastore d_Mo_answer_119 (by decide) a407 (vp_in_nI (by omega) (by omega)) ?_
                refine S_iincN (a := k17) (b := 1) (L' := [(4, .int (nI (k17 + 1))), (3, .int (nI k16)), (2, .int (nI 3)), (0, .ref 373), (1, .int (nI 3))]) d_Mo_answer_120 (by decide) rfl rfl rfl ?_
                refine ST.lift (fun _ _ k => T_goto (tgt := 92) d_Mo_answer_123 rfl k) ?_
                exact ih19 (192 - (k17 + 1)) (by omega) (k17 + 1)  rfl (by omega)
          exact lp20 _ 0  rfl (by omega)
        · refine ST.lift (fun _ _ k => T_iconst (v := nI 1) d_Mo_answer_80 (by decide) k) ?_
          exact S_ret d_Mo_answer_81 rfl rfl (by decide) (by decide) (hQ _ _ hv8 hm9 (e10.trans (congrArg nI (by omega))))
    · refine ST.lift (fun _ _ k => T_iconst (v := nI 2) d_Mo_answer_32 (by decide) k) ?_
      exact S_ret d_Mo_answer_33 rfl rfl (by decide) (by decide) (hQ _ _ hv2 hm3 (e4.trans (congrArg nI (by omega))))
set_option maxRecDepth 100000 in
set_option maxHeartbeats 4000000 in
theorem c_Mo_finish_3 (G : GX) (v : Nat → Int32) (e67 : v 67 = nI 0) (hv : okv v) : CS G mi_Mo_finish [.ref 373, .int (nI 3)] v (fun r v' => ∃ z : Int32, r = some (.int z) ∧ okv v' ∧ mdf [66, 67, 70, 68, 69, 72, 75, 91, 95, 99, 103, 107, 111, 115, 119, 123, 127] v v' ∧ v' 67 = nI 0) := by
  refine CS.of (by decide) (Nat.le_of_ble_eq_true rfl) ?_
  generalize hQe : (fun (r : Option Value) (v' : Nat → Int32) => ∃ z : Int32, r = some (.int z) ∧ okv v' ∧ mdf [66, 67, 70, 68, 69, 72, 75, 91, 95, 99, 103, 107, 111, 115, 119, 123, 127] v v' ∧ v' 67 = nI 0) = Q
  have hQ : ∀ (z : Int32) (u : Nat → Int32), okv u → mdf [66, 67, 70, 68, 69, 72, 75, 91, 95, 99, 103, 107, 111, 115, 119, 123, 127] v u → u 67 = nI 0 → Q (some (.int z)) u := by rw [← hQe]; exact fun z u h1 h2 f0 => ⟨z, rfl, h1, h2, f0⟩
  clear hQe
  have hm : mdf [66, 67, 70, 68, 69, 72, 75, 91, 95, 99, 103, 107, 111, 115, 119, 123, 127] v v := mdf.rf
  show ST G mi_Mo_finish 0 [(0, .ref 373), (1, .int (nI 3))] [] v 0 0 Q
  refine ST.lift (fun _ _ k => T_aload_n (v := .ref 373) d_Mo_finish_0 rfl (Or.inr ⟨_, rfl⟩) k) ?_
  refine ST.lift (fun _ _ k => T_iconst (v := nI 0) d_Mo_finish_1 (by decide) k) ?_
  refine S_putfield (v' := va_up v 66 (nI 0)) d_Mo_finish_2 (fp_Mo_316 _) (w373 _) (Nat.le_of_ble_eq_true rfl) ⟨rfl, rfl⟩ (u373_0 _ _) ?_
  have hv2 := hv.off (j := 66) (x := (nI 0)) (by decide)
  have hm3 := hm.go (mdf.up (v := v) (j := 66) (x := (nI 0))) (by intro i hi; simp only [List.mem_cons, List.not_mem_nil, or_false] at hi ⊢ <;> omega)
  have e_u1 : (va_up v 66 (nI 0)) 66 = (nI 0) := by simp [va_up]
  have e4 : (va_up v 66 (nI 0)) 67 = nI 0 := by simp only [va_up]; exact e67
  generalize va_up v 66 (nI 0) = u1 at hv2 hm3 e_u1 e4 ⊢
  refine ST.lift (fun _ _ k => T_iload_n d_Mo_finish_5 rfl k) ?_
  refine S_static (as := [.int (nI 3)]) (rest := []) d_Mo_finish_6 rfl (jw_Mo_isSession.jo (by decide)) lm_Mo_545 jt_Mo_isSession rfl (Nat.le_of_ble_eq_true rfl) (by decide) (by decide) (c_Mo_isSession G u1 3 (by omega)) (fun r v' hq => ?_)
  rw [hq.1, hq.2]
  clear hq r v'
  show ST G mi_Mo_finish 9 [(0, .ref 373), (1, .int (nI 3))] [.int (nI 1)] u1 0 0 _
  refine S_if_neN d_Mo_finish_9 rfl (by omega) (fun _ => ?_) (fun c => by first | exact absurd c (by omega) | exact c.elim | exact absurd c (by decide) | exact absurd (by assumption) c | exact absurd c (by assumption))
  refine ST.lift (fun _ _ k => T_aload_n (v := .ref 373) d_Mo_finish_14 rfl (Or.inr ⟨_, rfl⟩) k) ?_
  refine S_getfield d_Mo_finish_15 fg_Mo_395 (w373 _) rfl ?_
  refine ST.lift (fun _ _ k => T_iload_n d_Mo_finish_18 rfl k) ?_
  refine S_xload (t := 3) (k := 3) (Or.inr ⟨rfl, d_Mo_finish_19⟩) rfl (w425 _) (by decide) (by decide) ?_
  refine S_topi (y := u1 103) rfl ?_
  refine S_if_eq d_Mo_finish_20 rfl (fun c5 => ?_) (fun c5 => ?_)
  · refine ST.lift (fun _ _ k => T_iconst (v := nI 2) d_Mo_finish_32 (by decide) k) ?_
    exact S_ret d_Mo_finish_33 rfl rfl (by decide) (by decide) (hQ _ _ hv2 hm3 (e4.trans (congrArg nI (by omega))))
  · refine ST.lift (fun _ _ k => T_aload_n (v := .ref 373) d_Mo_finish_23 rfl (Or.inr ⟨_, rfl⟩) k) ?_
    refine S_getfield d_Mo_finish_24 fg_Mo_404 (w373 _) rfl ?_
    refine ST.lift (fun _ _ k => T_iload_n d_Mo_finish_27 rfl k) ?_
    refine S_xload (t := 3) (k := 3) (Or.inr ⟨rfl, d_Mo_finish_28⟩) rfl (w428 _) (by decide) (by decide) ?_
    refine S_topi (y := u1 115) rfl ?_
    refine S_if_eq d_Mo_finish_29 rfl (fun c6 => ?_) (fun c6 => ?_)
    · refine ST.lift (fun _ _ k => T_iload_n d_Mo_finish_34 rfl k) ?_
      refine ST.lift (fun _ _ k => T_istore_n (L' := [(2, .int (nI 3)), (0, .ref 373), (1, .int (nI 3))]) d_Mo_finish_35 (by decide) rfl k) ?_
      refine ST.lift (fun _ _ k => T_sipush (v := nI 320) d_Mo_finish_36 (by decide) k) ?_
      refine ST.lift (fun _ _ k => T_iload_n d_Mo_finish_39 rfl k) ?_
      refine S_imulN d_Mo_finish_40 ?_
      refine S_topi (y := nI 960) (by decide) ?_
      refine ST.lift (fun _ _ k => T_istore_n (L' := [(3, .int (nI 960)), (2, .int (nI 3)), (0, .ref 373), (1, .int (nI 3))]) d_Mo_finish_41 (by decide) rfl k) ?_
      refine ST.lift (fun _ _ k => T_aload_n (v := .ref 373) d_Mo_finish_42 rfl (Or.inr ⟨_, rfl⟩) k) ?_
      refine S_getfield d_Mo_finish_43 fg_Mo_404 (w373 _) rfl ?_
      refine ST.lift (fun _ _ k => T_iload_n d_Mo_finish_46 rfl k) ?_
      refine ST.lift (fun _ _ k => T_iconst (v := nI 1) d_Mo_finish_47 (by decide) k) ?_
      refine S_xstore (k := 3) (y := (nI 1)) (v' := va_up u1 115 (nI 1)) (Or.inr ⟨rfl, by decide, d_Mo_finish_48⟩) (by decide) rfl (w428 _) (by decide) (by decide) (x428_3 _ _) ?_
      have hv8 := hv2.off (j := 115) (x := (nI 1)) (by decide)
      have hm9 := hm3.go (mdf.up (v := u1) (j := 115) (x := (nI 1))) (by intro i hi; simp only [List.mem_cons, List.not_mem_nil, or_false] at hi ⊢ <;> omega)
      have e_u7 : (va_up u1 115 (nI 1)) 115 = (nI 1) := by simp [va_up]
      have e10 : (va_up u1 115 (nI 1)) 67 = nI 0 := by simp only [va_up]; exact e4
      have e11 : (va_up u1 115 (nI 1)) 66 = nI 0 := by simp only [va_up]; exact e_u1
      generalize va_up u1 115 (nI 1) = u7 at hv8 hm9 e_u7 e10 e11 ⊢
      refine ST.lift (fun _ _ k => T_aload_n (v := .ref 373) d_Mo_finish_49 rfl (Or.inr ⟨_, rfl⟩) k) ?_
      refine ST.lift (fun _ _ k => T_bipush (v := nI 12) d_Mo_finish_50 (by decide) k) ?_
      refine ST.lift (fun _ _ k => T_aload_n (v := .ref 373) d_Mo_finish_52 rfl (Or.inr ⟨_, rfl⟩) k) ?_
      refine S_getfield d_Mo_finish_53 fg_Mo_422 (w373 _) rfl ?_
      refine ST.lift (fun _ _ k => T_iload_n d_Mo_finish_56 rfl k) ?_
      refine S_virtual (as := [.int (nI 12), .ref 434, .int (nI 960)]) (rest := []) (b := 373) d_Mo_finish_57 rfl (jw_Mo_decode.jo (by decide)) lm_Mo_502 ji_Mo_decode js_Mo_decode (w373 _) rfl rfl rfl (Nat.le_of_ble_eq_true rfl) (by decide) (by decide) (c_Mo_decode G u7 12 (by omega) 434 1280 (by decide) a434 (by omega) 960 (by omega)) (fun r v' hq => ?_)
      obtain ⟨z12, hz12, hr, hv⟩ := hq
      rw [hr, hv]
      clear hr hv r v'
      show ST G mi_Mo_finish 60 [(3, .int (nI 960)), (2, .int (nI 3)), (0, .ref 373), (1, .int (nI 3))] [.int (nI z12)] u7 0 0 _
      refine S_if_neN d_Mo_finish_60 rfl (by omega) (fun c13 => ?_) (fun c13 => ?_)
      · refine ST.lift (fun _ _ k => T_aload_n (v := .ref 373) d_Mo_finish_65 rfl (Or.inr ⟨_, rfl⟩) k) ?_
        refine ST.lift (fun _ _ k => T_aload_n (v := .ref 373) d_Mo_finish_66 rfl (Or.inr ⟨_, rfl⟩) k) ?_
        refine S_getfield d_Mo_finish_67 fg_Mo_386 (w373 _) rfl ?_
        refine ST.lift (fun _ _ k => T_bipush (v := nI 16) d_Mo_finish_70 (by decide) k) ?_
        refine ST.lift (fun _ _ k => T_iload_n d_Mo_finish_72 rfl k) ?_
        refine S_imulN d_Mo_finish_73 ?_
        refine S_topi (y := nI 48) (by decide) ?_
        refine S_virtual (as := [.ref 422, .int (nI 48)]) (rest := []) (b := 373) d_Mo_finish_74 rfl (jw_Mo_takeScalar.jo (by decide)) lm_Mo_533 ji_Mo_takeScalar js_Mo_takeScalar (w373 _) rfl rfl rfl (Nat.le_of_ble_eq_true rfl) (by decide) (by decide) (c_Mo_takeScalar G u7 422 64 (by decide) a422 (by omega) 48 (by omega)) (fun r v' hq => ?_)
        rw [hq.1, hq.2]
        clear hq r v'
        show ST G mi_Mo_finish 77 [(3, .int (nI 960)), (2, .int (nI 3)), (0, .ref 373), (1, .int (nI 3))] [] u7 0 0 _
        refine ST.lift (fun _ _ k => T_aload_n (v := .ref 373) d_Mo_finish_77 rfl (Or.inr ⟨_, rfl⟩) k) ?_
        refine S_virtual (as := []) (rest := []) (b := 373) d_Mo_finish_78 rfl (jw_Mo_invertScalar.jo (by decide)) lm_Mo_592 ji_Mo_invertScalar js_Mo_invertScalar (w373 _) rfl rfl rfl (Nat.le_of_ble_eq_true rfl) (by decide) (by decide) (c_Mo_invertScalar G u7) (fun r v' hq => ?_)
        rw [hq.1, hq.2]
        clear hq r v'
        show ST G mi_Mo_finish 81 [(3, .int (nI 960)), (2, .int (nI 3)), (0, .ref 373), (1, .int (nI 3))] [] u7 0 0 _
        refine ST.lift (fun _ _ k => T_aload_n (v := .ref 373) d_Mo_finish_81 rfl (Or.inr ⟨_, rfl⟩) k) ?_
        refine ST.lift (fun _ _ k => T_bipush (v := nI 12) d_Mo_finish_82 (by decide) k) ?_
        refine ST.lift (fun _ _ k => T_bipush (v := nI 12) d_Mo_finish_84 (by decide) k) ?_
        refine S_virtual (as := [.int (nI 12), .int (nI 12)]) (rest := []) (b := 373) d_Mo_finish_86 rfl (jw_Mo_timesPoint.jo (by decide)) lm_Mo_290 ji_Mo_timesPoint js_Mo_timesPoint (w373 _) rfl rfl rfl (Nat.le_of_ble_eq_true rfl) (by decide) (by decide) (c_Mo_timesPoint G u7 12 (by omega) 12 (by omega)) (fun r v' hq => ?_)
        rw [hq.1, hq.2]
        clear hq r v'
        show ST G mi_Mo_finish 89 [(3, .int (nI 960)), (2, .int (nI 3)), (0, .ref 373), (1, .int (nI 3))] [] u7 0 0 _
        refine ST.lift (fun _ _ k => T_aload_n (v := .ref 373) d_Mo_finish_89 rfl (Or.inr ⟨_, rfl⟩) k) ?_
        refine ST.lift (fun _ _ k => T_bipush (v := nI 12) d_Mo_finish_90 (by decide) k) ?_
        refine S_virtual (as := [.int (nI 12)]) (rest := []) (b := 373) d_Mo_finish_92 rfl (jw_Mo_code.jo (by decide)) lm_Mo_293 ji_Mo_code js_Mo_code (w373 _) rfl rfl rfl (Nat.le_of_ble_eq_true rfl) (by decide) (by decide) (c_Mo_code G u7 12 (by omega)) (fun r v' hq => ?_)
        rw [hq.1, hq.2]
        clear hq r v'
        show ST G mi_Mo_finish 95 [(3, .int (nI 960)), (2, .int (nI 3)), (0, .ref 373), (1, .int (nI 3))] [] u7 0 0 _
        refine ST.lift (fun _ _ k => T_aload_n (v := .ref 373) d_Mo_finish_95 rfl (Or.inr ⟨_, rfl⟩) k) ?_
        refine ST.lift (fun _ _ k => T_aload_n (v := .ref 373) d_Mo_finish_96 rfl (Or.inr ⟨_, rfl⟩) k) ?_
        refine S_getfield d_Mo_finish_97 fg_Mo_380 (w373 _) rfl ?_
        refine ST.lift (fun _ _ k => T_sipush (v := nI 200) d_Mo_finish_100 (by decide) k) ?_
        refine ST.lift (fun _ _ k => T_iload_n d_Mo_finish_103 rfl k) ?_
        refine S_imulN d_Mo_finish_104 ?_
        refine S_topi (y := nI 600) (by decide) ?_
        refine ST.lift (fun _ _ k => T_aload_n (v := .ref 373) d_Mo_finish_105 rfl (Or.inr ⟨_, rfl⟩) k) ?_
        refine S_getfield d_Mo_finish_106 fg_Mo_383 (w373 _) rfl ?_
        refine ST.lift (fun _ _ k => T_iload_n d_Mo_finish_109 rfl k) ?_
        obtain ⟨k14, hk14, ek14⟩ := hv8.get (j := 95) (c := 200) (by decide)
        refine S_xload (t := 2) (k := 3) (Or.inl ⟨rfl, d_Mo_finish_110⟩) rfl (w421 _) (by decide) (by decide) ?_
        refine S_topi (y := u7 95) rfl ?_
        refine S_topi (y := nI k14) (ek14) ?_
        refine S_virtual (as := [.ref 420, .int (nI 600), .int (nI k14)]) (rest := []) (b := 373) d_Mo_finish_111 rfl (jw_Mo_second.jo (by decide)) lm_Mo_536 ji_Mo_second js_Mo_second (w373 _) rfl rfl rfl (Nat.le_of_ble_eq_true rfl) (by decide) (by decide) (c_Mo_second G u7 420 800 (by decide) a420 (by omega) 600 (by omega) k14 (by omega) 0 e10 (by omega) hv8) (fun r u15 hq => ?_)
        obtain ⟨hr, hv16, hm17, es_u15⟩ := hq
        rw [hr]
        clear hr r
        have hm19 := hm9.go hm17 (by intro i hi; simp only [List.mem_cons, List.not_mem_nil, or_false] at hi ⊢ <;> omega)
        have e20 : u15 66 = nI 0 := (hm17 66 (by decide)).trans e11
        have e21 : u15 115 = nI 1 := (hm17 115 (by decide)).trans e_u7
        have e22 : u15 95 = nI k14 := (hm17 95 (by decide)).trans ek14
        show ST G mi_Mo_finish 114 [(3, .int (nI 960)), (2, .int (nI 3)), (0, .ref 373), (1, .int (nI 3))] [] u15 0 0 _
        refine ST.lift (fun _ _ k => T_aload_n (v := .ref 373) d_Mo_finish_114 rfl (Or.inr ⟨_, rfl⟩) k) ?_
        refine S_virtual (as := []) (rest := []) (b := 373) d_Mo_finish_115 rfl (jw_Mo_maskOf.jo (by decide)) lm_Mo_542 ji_Mo_maskOf js_Mo_maskOf (w373 _) rfl rfl rfl (Nat.le_of_ble_eq_true rfl) (by decide) (by decide) (c_Mo_maskOf G u15 0 es_u15 (by omega) hv16) (fun r u23 hq => ?_)
        obtain ⟨hr, hv24, hm25, es_u23⟩ := hq
        rw [hr]
        clear hr r
        have hm27 := hm19.go hm25 (by intro i hi; simp only [List.mem_cons, List.not_mem_nil, or_false] at hi ⊢ <;> omega)
        have e28 : u23 66 = nI 0 := (hm25 66 (by decide)).trans e20
        have e29 : u23 115 = nI 1 := (hm25 115 (by decide)).trans e21
        have e30 : u23 95 = nI k14 := (hm25 95 (by decide)).trans e22
        show ST G mi_Mo_finish 118 [(3, .int (nI 960)), (2, .int (nI 3)), (0, .ref 373), (1, .int (nI 3))] [] u23 0 0 _
        refine ST.lift (fun _ _ k => T_aload_n (v := .ref 373) d_Mo_finish_118 rfl (Or.inr ⟨_, rfl⟩) k) ?_
        refine ST.lift (fun _ _ k => T_aload_n (v := .ref 373) d_Mo_finish_119 rfl (Or.inr ⟨_, rfl⟩) k) ?_
        refine S_getfield d_Mo_finish_120 fg_Mo_371 (w373 _) rfl ?_
        refine ST.lift (fun _ _ k => T_iconst (v := nI 0) d_Mo_finish_123 (by decide) k) ?_
        refine ST.lift (fun _ _ k => T_aload_n (v := .ref 373) d_Mo_finish_124 rfl (Or.inr ⟨_, rfl⟩) k) ?_
        refine S_getfield d_Mo_finish_125 fg_Mo_422 (w373 _) rfl ?_
        refine ST.lift (fun _ _ k => T_iload_n d_Mo_finish_128 rfl k) ?_
        refine ST.lift (fun _ _ k => T_bipush (v := nI 32) d_Mo_finish_129 (by decide) k) ?_
        refine S_iaddN d_Mo_finish_131 ?_
        refine S_topi (y := nI 992) (by decide) ?_
        refine S_virtual (as := [.ref 417, .int (nI 0), .ref 434, .int (nI 992)]) (rest := []) (b := 373) d_Mo_finish_132 rfl (jw_Mo_padOf.jo (by decide)) lm_Mo_578 ji_Mo_padOf js_Mo_padOf (w373 _) rfl rfl rfl (Nat.le_of_ble_eq_true rfl) (by decide) (by decide) (c_Mo_padOf G u23 417 64 (by decide) a417 (by omega) 0 (by omega) 434 1280 (by decide) a434 (by omega) 992 (by omega) 0 es_u23 (by omega) hv24) (fun r u31 hq => ?_)
        obtain ⟨hr, hv32, hm33, es_u31⟩ := hq
        rw [hr]
        clear hr r
        have hm35 := hm27.go hm33 (by intro i hi; simp only [List.mem_cons, List.not_mem_nil, or_false] at hi ⊢ <;> omega)
        have e36 : u31 66 = nI 0 := (hm33 66 (by decide)).trans e28
        have e37 : u31 115 = nI 1 := (hm33 115 (by decide)).trans e29
        have e38 : u31 95 = nI k14 := (hm33 95 (by decide)).trans e30
        show ST G mi_Mo_finish 135 [(3, .int (nI 960)), (2, .int (nI 3)), (0, .ref 373), (1, .int (nI 3))] [] u31 0 0 _
        refine ST.lift (fun _ _ k => T_iconst (v := nI 0) d_Mo_finish_135 (by decide) k) ?_
        refine ST.lift (fun _ _ k => T_istore (L' := [(4, .int (nI 0)), (3, .int (nI 960)), (2, .int (nI 3)), (0, .ref 373), (1, .int (nI 3))]) d_Mo_finish_136 (by decide) rfl k) ?_
        have lp42 : ∀ (n40 k39 : Nat), 128 - k39 = n40 → 0 ≤ k39 ∧ k39 ≤ 0 + 128 → ST G mi_Mo_finish 138 [(4, .int (nI k39)), (3, .int (nI 960)), (2, .int (nI 3)), (0, .ref 373), (1, .int (nI 3))] [] u31 0 0 Q := by
          intro n40
          induction n40 using Nat.strongRecOn with
          | _ n40 ih41 =>
            intro k39 h43 h44
            refine ST.lift (fun _ _ k => T_iload d_Mo_finish_138 rfl k) ?_
            refine ST.lift (fun _ _ k => T_sipush (v := nI 128) d_Mo_finish_140 (by decide) k) ?_
            refine S_icmp_geN d_Mo_finish_143 rfl (by omega) (by omega) (fun c45 => ?_) (fun c45 => ?_)
            · refine ST.lift (fun _ _ k => T_iconst (v := nI 0) d_Mo_finish_179 (by decide) k) ?_
              refine ST.lift (fun _ _ k => T_istore (L' := [(4, .int (nI 0)), (3, .int (nI 960)), (2, .int (nI 3)), (0, .ref 373), (1, .int (nI 3))]) d_Mo_finish_180 (by decide) rfl k) ?_
              have lp52 : ∀ (n50 k49 : Nat), 32 - k49 = n50 → 0 ≤ k49 ∧ k49 ≤ 0 + 32 → ST G mi_Mo_finish 182 [(4, .int (nI k49)), (3, .int (nI 960)), (2, .int (nI 3)), (0, .ref 373), (1, .int (nI 3))] [] u31 0 0 Q := by
                intro n50
                induction n50 using Nat.strongRecOn with
                | _ n50 ih51 =>
                  intro k49 h53 h54
                  refine ST.lift (fun _ _ k => T_iload d_Mo_finish_182 rfl k) ?_
                  refine ST.lift (fun _ _ k => T_bipush (v := nI 32) d_Mo_finish_184 (by decide) k) ?_
                  refine S_icmp_geN d_Mo_finish_186 rfl (by omega) (by omega) (fun c55 => ?_) (fun c55 => ?_)
                  · refine ST.lift (fun _ _ k => T_aload_n (v := .ref 373) d_Mo_finish_212 rfl (Or.inr ⟨_, rfl⟩) k) ?_
                    refine ST.lift (fun _ _ k => T_aload_n (v := .ref 373) d_Mo_finish_213 rfl (Or.inr ⟨_, rfl⟩) k) ?_
                    refine S_getfield d_Mo_finish_214 fg_Mo_473 (w373 _) rfl ?_
                    refine ST.lift (fun _ _ k => T_iconst (v := nI 0) d_Mo_finish_217 (by decide) k) ?_
                    refine S_virtual (as := [.ref 450, .int (nI 0)]) (rest := []) (b := 373) d_Mo_finish_218 rfl (jw_Mo_opens.jo (by decide)) lm_Mo_539 ji_Mo_opens js_Mo_opens (w373 _) rfl rfl rfl (Nat.le_of_ble_eq_true rfl) (by decide) (by decide) (c_Mo_opens G u31 450 128 (by decide) a450 (by omega) 0 (by omega) 0 es_u31 (by omega) hv32) (fun r u57 hq => ?_)
                    obtain ⟨hr, hv58, hm59, es_u57⟩ := hq
                    rw [hr]
                    clear hr r
                    have hm61 := hm35.go hm59 (by intro i hi; simp only [List.mem_cons, List.not_mem_nil, or_false] at hi ⊢ <;> omega)
                    have e62 : u57 66 = nI 0 := (hm59 66 (by decide)).trans e36
                    have e63 : u57 115 = nI 1 := (hm59 115 (by decide)).trans e37
                    have e64 : u57 95 = nI k14 := (hm59 95 (by decide)).trans e38
                    show ST G mi_Mo_finish 221 [(4, .int (nI k49)), (3, .int (nI 960)), (2, .int (nI 3)), (0, .ref 373), (1, .int (nI 3))] [] u57 0 0 _
                    refine ST.lift (fun _ _ k => T_iconst (v := nI 0) d_Mo_finish_221 (by decide) k) ?_
                    refine ST.lift (fun _ _ k => T_istore (L' := [(4, .int (nI 0)), (3, .int (nI 960)), (2, .int (nI 3)), (0, .ref 373), (1, .int (nI 3))]) d_Mo_finish_222 (by decide) rfl k) ?_
                    have lp68 : ∀ (n66 k65 : Nat), 64 - k65 = n66 → 0 ≤ k65 ∧ k65 ≤ 0 + 64 → ST G mi_Mo_finish 224 [(4, .int (nI k65)), (3, .int (nI 960)), (2, .int (nI 3)), (0, .ref 373), (1, .int (nI 3))] [] u57 0 0 Q := by
                      intro n66
                      induction n66 using Nat.strongRecOn with
                      | _ n66 ih67 =>
                        intro k65 h69 h70
                        refine ST.lift (fun _ _ k => T_iload d_Mo_finish_224 rfl k) ?_
                        refine ST.lift (fun _ _ k => T_bipush (v := nI 64) d_Mo_finish_226 (by decide) k) ?_
                        refine S_icmp_geN d_Mo_finish_228 rfl (by omega) (by omega) (fun c71 => ?_) (fun c71 => ?_)
                        · refine ST.lift (fun _ _ k => T_aload_n (v := .ref 373) d_Mo_finish_259 rfl (Or.inr ⟨_, rfl⟩) k) ?_
                          refine ST.lift (fun _ _ k => T_bipush (v := nI 12) d_Mo_finish_260 (by decide) k) ?_
                          refine ST.lift (fun _ _ k => T_aload_n (v := .ref 373) d_Mo_finish_262 rfl (Or.inr ⟨_, rfl⟩) k) ?_
                          refine S_getfield d_Mo_finish_263 fg_Mo_473 (w373 _) rfl ?_
                          refine ST.lift (fun _ _ k => T_iconst (v := nI 0) d_Mo_finish_266 (by decide) k) ?_
                          refine S_virtual (as := [.int (nI 12), .ref 450, .int (nI 0)]) (rest := []) (b := 373) d_Mo_finish_267 rfl (jw_Mo_decode.jo (by decide)) lm_Mo_502 ji_Mo_decode js_Mo_decode (w373 _) rfl rfl rfl (Nat.le_of_ble_eq_true rfl) (by decide) (by decide) (c_Mo_decode G u57 12 (by omega) 450 128 (by decide) a450 (by omega) 0 (by omega)) (fun r v' hq => ?_)
                          obtain ⟨z72, hz72, hr, hv⟩ := hq
                          rw [hr, hv]
                          clear hr hv r v'
                          show ST G mi_Mo_finish 270 [(4, .int (nI k65)), (3, .int (nI 960)), (2, .int (nI 3)), (0, .ref 373), (1, .int (nI 3))] [.int (nI z72)] u57 0 0 _
                          refine S_if_eqN d_Mo_finish_270 rfl (by omega) (fun c73 => ?_) (fun c73 => ?_)
                          · refine ST.lift (fun _ _ k => T_iconst (v := nI 1) d_Mo_finish_291 (by decide) k) ?_
                            exact S_ret d_Mo_finish_292 rfl rfl (by decide) (by decide) (hQ _ _ hv58 hm61 (es_u57.trans (congrArg nI (by omega))))
                          · refine ST.lift (fun _ _ k => T_aload_n (v := .ref 373) d_Mo_finish_273 rfl (Or.inr ⟨_, rfl⟩) k) ?_
                            refine ST.lift (fun _ _ k => T_bipush (v := nI 12) d_Mo_finish_274 (by decide) k) ?_
                            refine ST.lift (fun _ _ k => T_aload_n (v := .ref 373) d_Mo_finish_276 rfl (Or.inr ⟨_, rfl⟩) k) ?_
                            refine S_getfield d_Mo_finish_277 fg_Mo_422 (w373 _) rfl ?_
                            refine ST.lift (fun _ _ k => T_iload_n d_Mo_finish_280 rfl k) ?_
                            refine ST.lift (fun _ _ k => T_sipush (v := nI 224) d_Mo_finish_281 (by decide) k) ?_
                            refine S_iaddN d_Mo_finish_284 ?_
                            refine S_topi (y := nI 1184) (by decide) ?_
                            refine S_virtual (as := [.int (nI 12), .ref 434, .int (nI 1184)]) (rest := []) (b := 373) d_Mo_finish_285 rfl (jw_Mo_decode.jo (by decide)) lm_Mo_502 ji_Mo_decode js_Mo_decode (w373 _) rfl rfl rfl (Nat.le_of_ble_eq_true rfl) (by decide) (by decide) (c_Mo_decode G u57 12 (by omega) 434 1280 (by decide) a434 (by omega) 1184 (by omega)) (fun r v' hq => ?_)
                            obtain ⟨z74, hz74, hr, hv⟩ := hq
                            rw [hr, hv]
                            clear hr hv r v'
                            show ST G mi_Mo_finish 288 [(4, .int (nI k65)), (3, .int (nI 960)), (2, .int (nI 3)), (0, .ref 373), (1, .int (nI 3))] [.int (nI z74)] u57 0 0 _
                            refine S_if_neN d_Mo_finish_288 rfl (by omega) (fun c75 => ?_) (fun c75 => ?_)
                            · refine ST.lift (fun _ _ k => T_aload_n (v := .ref 373) d_Mo_finish_293 rfl (Or.inr ⟨_, rfl⟩) k) ?_
                              refine ST.lift (fun _ _ k => T_aload_n (v := .ref 373) d_Mo_finish_294 rfl (Or.inr ⟨_, rfl⟩) k) ?_
                              refine S_getfield d_Mo_finish_295 fg_Mo_389 (w373 _) rfl ?_
                              refine ST.lift (fun _ _ k => T_bipush (v := nI 16) d_Mo_finish_298 (by decide) k) ?_
                              refine ST.lift (fun _ _ k => T_iload_n d_Mo_finish_300 rfl k) ?_
                              refine S_imulN d_Mo_finish_301 ?_
                              refine S_topi (y := nI 48) (by decide) ?_
                              refine S_virtual (as := [.ref 423, .int (nI 48)]) (rest := []) (b := 373) d_Mo_finish_302 rfl (jw_Mo_takeScalar.jo (by decide)) lm_Mo_533 ji_Mo_takeScalar js_Mo_takeScalar (w373 _) rfl rfl rfl (Nat.le_of_ble_eq_true rfl) (by decide) (by decide) (c_Mo_takeScalar G u57 423 64 (by decide) a423 (by omega) 48 (by omega)) (fun r v' hq => ?_)
                              rw [hq.1, hq.2]
                              clear hq r v'
                              show ST G mi_Mo_finish 305 [(4, .int (nI k65)), (3, .int (nI 960)), (2, .int (nI 3)), (0, .ref 373), (1, .int (nI 3))] [] u57 0 0 _
                              refine ST.lift (fun _ _ k => T_aload_n (v := .ref 373) d_Mo_finish_305 rfl (Or.inr ⟨_, rfl⟩) k) ?_
                              refine ST.lift (fun _ _ k => T_iconst (v := nI 0) d_Mo_finish_306 (by decide) k) ?_
                              refine ST.lift (fun _ _ k => T_bipush (v := nI 12) d_Mo_finish_307 (by decide) k) ?_
                              refine S_virtual (as := [.int (nI 0), .int (nI 12)]) (rest := []) (b := 373) d_Mo_finish_309 rfl (jw_Mo_share.jo (by decide)) lm_Mo_582 ji_Mo_share js_Mo_share (w373 _) rfl rfl rfl (Nat.le_of_ble_eq_true rfl) (by decide) (by decide) (c_Mo_share G u57 0 (by omega) 12 (by omega)) (fun r v' hq => ?_)
                              rw [hq.1, hq.2]
                              clear hq r v'
                              show ST G mi_Mo_finish 312 [(4, .int (nI k65)), (3, .int (nI 960)), (2, .int (nI 3)), (0, .ref 373), (1, .int (nI 3))] [] u57 0 0 _
                              refine ST.lift (fun _ _ k => T_aload_n (v := .ref 373) d_Mo_finish_312 rfl (Or.inr ⟨_, rfl⟩) k) ?_
                              refine ST.lift (fun _ _ k => T_aload_n (v := .ref 373) d_Mo_finish_313 rfl (Or.inr ⟨_, rfl⟩) k) ?_
                              refine S_getfield d_Mo_finish_314 fg_Mo_362 (w373 _) rfl ?_
                              refine ST.lift (fun _ _ k => T_iconst (v := nI 0) d_Mo_finish_317 (by decide) k) ?_
                              refine S_virtual (as := [.ref 414, .int (nI 0)]) (rest := []) (b := 373) d_Mo_finish_318 rfl (jw_Mo_takeScalar.jo (by decide)) lm_Mo_533 ji_Mo_takeScalar js_Mo_takeScalar (w373 _) rfl rfl rfl (Nat.le_of_ble_eq_true rfl) (by decide) (by decide) (c_Mo_takeScalar G u57 414 16 (by decide) a414 (by omega) 0 (by omega)) (fun r v' hq => ?_)
                              rw [hq.1, hq.2]
                              clear hq r v'
                              show ST G mi_Mo_finish 321 [(4, .int (nI k65)), (3, .int (nI 960)), (2, .int (nI 3)), (0, .ref 373), (1, .int (nI 3))] [] u57 0 0 _
                              refine ST.lift (fun _ _ k => T_aload_n (v := .ref 373) d_Mo_finish_321 rfl (Or.inr ⟨_, rfl⟩) k) ?_
                              refine ST.lift (fun _ _ k => T_bipush (v := nI 64) d_Mo_finish_322 (by decide) k) ?_
                              refine ST.lift (fun _ _ k => T_bipush (v := nI 12) d_Mo_finish_324 (by decide) k) ?_
                              refine S_virtual (as := [.int (nI 64), .int (nI 12)]) (rest := []) (b := 373) d_Mo_finish_326 rfl (jw_Mo_share.jo (by decide)) lm_Mo_582 ji_Mo_share js_Mo_share (w373 _) rfl rfl rfl (Nat.le_of_ble_eq_true rfl) (by decide) (by decide) (c_Mo_share G u57 64 (by omega) 12 (by omega)) (fun r v' hq => ?_)
                              rw [hq.1, hq.2]
                              clear hq r v'
                              show ST G mi_Mo_finish 329 [(4, .int (nI k65)), (3, .int (nI 960)), (2, .int (nI 3)), (0, .ref 373), (1, .int (nI 3))] [] u57 0 0 _
                              refine ST.lift (fun _ _ k => T_aload_n (v := .ref 373) d_Mo_finish_329 rfl (Or.inr ⟨_, rfl⟩) k) ?_
                              refine ST.lift (fun _ _ k => T_bipush (v := nI 12) d_Mo_finish_330 (by decide) k) ?_
                              refine ST.lift (fun _ _ k => T_aload_n (v := .ref 373) d_Mo_finish_332 rfl (Or.inr ⟨_, rfl⟩) k) ?_
                              refine S_getfield d_Mo_finish_333 fg_Mo_473 (w373 _) rfl ?_
                              refine ST.lift (fun _ _ k => T_iconst (v := nI 0) d_Mo_finish_336 (by decide) k) ?_
                              refine S_virtual (as := [.int (nI 12), .ref 450, .int (nI 0)]) (rest := []) (b := 373) d_Mo_finish_337 rfl (jw_Mo_decode.jo (by decide)) lm_Mo_502 ji_Mo_decode js_Mo_decode (w373 _) rfl rfl rfl (Nat.le_of_ble_eq_true rfl) (by decide) (by decide) (c_Mo_decode G u57 12 (by omega) 450 128 (by decide) a450 (by omega) 0 (by omega)) (fun r v' hq => ?_)
                              obtain ⟨z76, hz76, hr, hv⟩ := hq
                              rw [hr, hv]
                              clear hr hv r v'
                              show ST G mi_Mo_finish 340 [(4, .int (nI k65)), (3, .int (nI 960)), (2, .int (nI 3)), (0, .ref 373), (1, .int (nI 3))] [.int (nI z76)] u57 0 0 _
                              refine ST.lift (fun _ _ k => T_pop d_Mo_finish_340 rfl k) ?_
                              refine ST.lift (fun _ _ k => T_aload_n (v := .ref 373) d_Mo_finish_341 rfl (Or.inr ⟨_, rfl⟩) k) ?_
                              refine ST.lift (fun _ _ k => T_aload_n (v := .ref 373) d_Mo_finish_342 rfl (Or.inr ⟨_, rfl⟩) k) ?_
                              refine S_getfield d_Mo_finish_343 fg_Mo_389 (w373 _) rfl ?_
                              refine ST.lift (fun _ _ k => T_bipush (v := nI 16) d_Mo_finish_346 (by decide) k) ?_
                              refine ST.lift (fun _ _ k => T_iload_n d_Mo_finish_348 rfl k) ?_
                              refine S_imulN d_Mo_finish_349 ?_
                              refine S_topi (y := nI 48) (by decide) ?_
                              refine S_virtual (as := [.ref 423, .int (nI 48)]) (rest := []) (b := 373) d_Mo_finish_350 rfl (jw_Mo_takeScalar.jo (by decide)) lm_Mo_533 ji_Mo_takeScalar js_Mo_takeScalar (w373 _) rfl rfl rfl (Nat.le_of_ble_eq_true rfl) (by decide) (by decide) (c_Mo_takeScalar G u57 423 64 (by decide) a423 (by omega) 48 (by omega)) (fun r v' hq => ?_)
                              rw [hq.1, hq.2]
                              clear hq r v'
                              show ST G mi_Mo_finish 353 [(4, .int (nI k65)), (3, .int (nI 960)), (2, .int (nI 3)), (0, .ref 373), (1, .int (nI 3))] [] u57 0 0 _
                              refine ST.lift (fun _ _ k => T_aload_n (v := .ref 373) d_Mo_finish_353 rfl (Or.inr ⟨_, rfl⟩) k) ?_
                              refine ST.lift (fun _ _ k => T_bipush (v := nI 32) d_Mo_finish_354 (by decide) k) ?_
                              refine ST.lift (fun _ _ k => T_bipush (v := nI 12) d_Mo_finish_356 (by decide) k) ?_
                              refine S_virtual (as := [.int (nI 32), .int (nI 12)]) (rest := []) (b := 373) d_Mo_finish_358 rfl (jw_Mo_share.jo (by decide)) lm_Mo_582 ji_Mo_share js_Mo_share (w373 _) rfl rfl rfl (Nat.le_of_ble_eq_true rfl) (by decide) (by decide) (c_Mo_share G u57 32 (by omega) 12 (by omega)) (fun r v' hq => ?_)
                              rw [hq.1, hq.2]
                              clear hq r v'
                              show ST G mi_Mo_finish 361 [(4, .int (nI k65)), (3, .int (nI 960)), (2, .int (nI 3)), (0, .ref 373), (1, .int (nI 3))] [] u57 0 0 _
                              refine ST.lift (fun _ _ k => T_aload_n (v := .ref 373) d_Mo_finish_361 rfl (Or.inr ⟨_, rfl⟩) k) ?_
                              refine ST.lift (fun _ _ k => T_aload_n (v := .ref 373) d_Mo_finish_362 rfl (Or.inr ⟨_, rfl⟩) k) ?_
                              refine S_getfield d_Mo_finish_363 fg_Mo_359 (w373 _) rfl ?_
                              refine ST.lift (fun _ _ k => T_iconst (v := nI 0) d_Mo_finish_366 (by decide) k) ?_
                              refine ST.lift (fun _ _ k => T_aload_n (v := .ref 373) d_Mo_finish_367 rfl (Or.inr ⟨_, rfl⟩) k) ?_
                              refine S_getfield d_Mo_finish_368 fg_Mo_416 (w373 _) rfl ?_
                              refine ST.lift (fun _ _ k => T_bipush (v := nI 96) d_Mo_finish_371 (by decide) k) ?_
                              refine ST.lift (fun _ _ k => T_iload_n d_Mo_finish_373 rfl k) ?_
                              refine S_imulN d_Mo_finish_374 ?_
                              refine S_topi (y := nI 288) (by decide) ?_
                              refine ST.lift (fun _ _ k => T_aload_n (v := .ref 373) d_Mo_finish_375 rfl (Or.inr ⟨_, rfl⟩) k) ?_
                              refine S_getfield d_Mo_finish_376 fg_Mo_473 (w373 _) rfl ?_
                              refine ST.lift (fun _ _ k => T_iconst (v := nI 0) d_Mo_finish_379 (by decide) k) ?_
                              refine ST.lift (fun _ _ k => T_aload_n (v := .ref 373) d_Mo_finish_380 rfl (Or.inr ⟨_, rfl⟩) k) ?_
                              refine S_getfield d_Mo_finish_381 fg_Mo_422 (w373 _) rfl ?_
                              refine ST.lift (fun _ _ k => T_iload_n d_Mo_finish_384 rfl k) ?_
                              refine S_virtual (as := [.ref 413, .int (nI 0), .ref 432, .int (nI 288), .ref 450, .int (nI 0), .ref 434, .int (nI 960)]) (rest := []) (b := 373) d_Mo_finish_385 rfl (jw_Mo_preambleOf.jo (by decide)) lm_Mo_585 ji_Mo_preambleOf js_Mo_preambleOf (w373 _) rfl rfl rfl (Nat.le_of_ble_eq_true rfl) (by decide) (by decide) (c_Mo_preambleOf G u57 413 32 (by decide) a413 (by omega) 0 (by omega) 432 384 (by decide) a432 (by omega) 288 (by omega) 450 128 (by decide) a450 (by omega) 0 (by omega) 434 1280 (by decide) a434 (by omega) 960 (by omega) 0 es_u57 (by omega) hv58) (fun r u77 hq => ?_)
                              obtain ⟨hr, hv78, hm79, es_u77⟩ := hq
                              rw [hr]
                              clear hr r
                              have hm81 := hm61.go hm79 (by intro i hi; simp only [List.mem_cons, List.not_mem_nil, or_false] at hi ⊢ <;> omega)
                              have e82 : u77 66 = nI 0 := (hm79 66 (by decide)).trans e62
                              have e83 : u77 115 = nI 1 := (hm79 115 (by decide)).trans e63
                              have e84 : u77 95 = nI k14 := (hm79 95 (by decide)).trans e64
                              show ST G mi_Mo_finish 388 [(4, .int (nI k65)), (3, .int (nI 960)), (2, .int (nI 3)), (0, .ref 373), (1, .int (nI 3))] [] u77 0 0 _
                              refine ST.lift (fun _ _ k => T_aload_n (v := .ref 373) d_Mo_finish_388 rfl (Or.inr ⟨_, rfl⟩) k) ?_
                              refine S_virtual (as := []) (rest := []) (b := 373) d_Mo_finish_389 rfl (jw_Mo_derive.jo (by decide)) lm_Mo_589 ji_Mo_derive js_Mo_derive (w373 _) rfl rfl rfl (Nat.le_of_ble_eq_true rfl) (by decide) (by decide) (c_Mo_derive G u77 0 es_u77 (by omega) hv78) (fun r u85 hq => ?_)
                              obtain ⟨hr, hv86, hm87, es_u85⟩ := hq
                              rw [hr]
                              clear hr r
                              have hm89 := hm81.go hm87 (by intro i hi; simp only [List.mem_cons, List.not_mem_nil, or_false] at hi ⊢ <;> omega)
                              have e90 : u85 66 = nI 0 := (hm87 66 (by decide)).trans e82
                              have e91 : u85 115 = nI 1 := (hm87 115 (by decide)).trans e83
                              have e92 : u85 95 = nI k14 := (hm87 95 (by decide)).trans e84
                              show ST G mi_Mo_finish 392 [(4, .int (nI k65)), (3, .int (nI 960)), (2, .int (nI 3)), (0, .ref 373), (1, .int (nI 3))] [] u85 0 0 _
                              refine ST.lift (fun _ _ k => T_iconst (v := nI 0) d_Mo_finish_392 (by decide) k) ?_
                              refine ST.lift (fun _ _ k => T_istore (L' := [(4, .int (nI 0)), (3, .int (nI 960)), (2, .int (nI 3)), (0, .ref 373), (1, .int (nI 3))]) d_Mo_finish_393 (by decide) rfl k) ?_
                              have lp96 : ∀ (n94 k93 : Nat), 64 - k93 = n94 → 0 ≤ k93 ∧ k93 ≤ 0 + 64 → ST G mi_Mo_finish 395 [(4, .int (nI k93)), (3, .int (nI 960)), (2, .int (nI 3)), (0, .ref 373), (1, .int (nI 3))] [] u85 0 0 Q := by
                                intro n94
                                induction n94 using Nat.strongRecOn with
                                | _ n94 ih95 =>
                                  intro k93 h97 h98
                                  refine ST.lift (fun _ _ k => T_iload d_Mo_finish_395 rfl k) ?_
                                  refine ST.lift (fun _ _ k => T_bipush (v := nI 64) d_Mo_finish_397 (by decide) k) ?_
                                  refine S_icmp_geN d_Mo_finish_399 rfl (by omega) (by omega) (fun c99 => ?_) (fun c99 => ?_)
                                  · refine ST.lift (fun _ _ k => T_iconst (v := nI 0) d_Mo_finish_433 (by decide) k) ?_
                                    refine ST.lift (fun _ _ k => T_istore (L' := [(4, .int (nI 0)), (3, .int (nI 960)), (2, .int (nI 3)), (0, .ref 373), (1, .int (nI 3))]) d_Mo_finish_434 (by decide) rfl k) ?_
                                    have lp103 : ∀ (n101 k100 : Nat), 64 - k100 = n101 → 0 ≤ k100 ∧ k100 ≤ 0 + 64 → ST G mi_Mo_finish 436 [(4, .int (nI k100)), (3, .int (nI 960)), (2, .int (nI 3)), (0, .ref 373), (1, .int (nI 3))] [] u85 0 0 Q := by
                                      intro n101
                                      induction n101 using Nat.strongRecOn with
                                      | _ n101 ih102 =>
                                        intro k100 h104 h105
                                        refine ST.lift (fun _ _ k => T_iload d_Mo_finish_436 rfl k) ?_
                                        refine ST.lift (fun _ _ k => T_bipush (v := nI 64) d_Mo_finish_438 (by decide) k) ?_
                                        refine S_icmp_geN d_Mo_finish_440 rfl (by omega) (by omega) (fun c106 => ?_) (fun c106 => ?_)
                                        · refine ST.lift (fun _ _ k => T_aload_n (v := .ref 373) d_Mo_finish_506 rfl (Or.inr ⟨_, rfl⟩) k) ?_
                                          refine S_getfield d_Mo_finish_507 fg_Mo_410 (w373 _) rfl ?_
                                          refine ST.lift (fun _ _ k => T_iload_n d_Mo_finish_510 rfl k) ?_
                                          refine ST.lift (fun _ _ k => T_iconst (v := nI 1) d_Mo_finish_511 (by decide) k) ?_
                                          refine S_xstore (k := 3) (y := (nI 1)) (v' := va_up u85 123 (nI 1)) (Or.inr ⟨rfl, by decide, d_Mo_finish_512⟩) (by decide) rfl (w430 _) (by decide) (by decide) (x430_3 _ _) ?_
                                          have hv111 := hv86.off (j := 123) (x := (nI 1)) (by decide)
                                          have hm112 := hm89.go (mdf.up (v := u85) (j := 123) (x := (nI 1))) (by intro i hi; simp only [List.mem_cons, List.not_mem_nil, or_false] at hi ⊢ <;> omega)
                                          have e_u110 : (va_up u85 123 (nI 1)) 123 = (nI 1) := by simp [va_up]
                                          have e113 : (va_up u85 123 (nI 1)) 66 = nI 0 := by simp only [va_up]; exact e90
                                          have e114 : (va_up u85 123 (nI 1)) 115 = nI 1 := by simp only [va_up]; exact e91
                                          have e115 : (va_up u85 123 (nI 1)) 95 = nI k14 := by simp only [va_up]; exact e92
                                          have e116 : (va_up u85 123 (nI 1)) 67 = nI 0 := by simp only [va_up]; exact es_u85
                                          generalize va_up u85 123 (nI 1) = u110 at hv111 hm112 e_u110 e113 e114 e115 e116 ⊢
                                          refine ST.lift (fun _ _ k => T_aload_n (v := .ref 373) d_Mo_finish_513 rfl (Or.inr ⟨_, rfl⟩) k) ?_
                                          refine S_getfield d_Mo_finish_514 fg_Mo_398 (w373 _) rfl ?_
                                          refine ST.lift (fun _ _ k => T_iload_n d_Mo_finish_517 rfl k) ?_
                                          refine ST.lift (fun _ _ k => T_iconst (v := nI 1) d_Mo_finish_518 (by decide) k) ?_
                                          refine S_xstore (k := 3) (y := (nI 1)) (v' := va_up u110 107 (nI 1)) (Or.inr ⟨rfl, by decide, d_Mo_finish_519⟩) (by decide) rfl (w426 _) (by decide) (by decide) (x426_3 _ _) ?_
                                          have hv118 := hv111.off (j := 107) (x := (nI 1)) (by decide)
                                          have hm119 := hm112.go (mdf.up (v := u110) (j := 107) (x := (nI 1))) (by intro i hi; simp only [List.mem_cons, List.not_mem_nil, or_false] at hi ⊢ <;> omega)
                                          have e_u117 : (va_up u110 107 (nI 1)) 107 = (nI 1) := by simp [va_up]
                                          have e120 : (va_up u110 107 (nI 1)) 66 = nI 0 := by simp only [va_up]; exact e113
                                          have e121 : (va_up u110 107 (nI 1)) 115 = nI 1 := by simp only [va_up]; exact e114
                                          have e122 : (va_up u110 107 (nI 1)) 95 = nI k14 := by simp only [va_up]; exact e115
                                          have e123 : (va_up u110 107 (nI 1)) 67 = nI 0 := by simp only [va_up]; exact e116
                                          have e124 : (va_up u110 107 (nI 1)) 123 = nI 1 := by simp only [va_up]; exact e_u110
                                          generalize va_up u110 107 (nI 1) = u117 at hv118 hm119 e_u117 e120 e121 e122 e123 e124 ⊢
                                          refine ST.lift (fun _ _ k => T_iconst (v := nI 0) d_Mo_finish_520 (by decide) k) ?_
                                          exact S_ret d_Mo_finish_521 rfl rfl (by decide) (by decide) (hQ _ _ hv118 hm119 (e123.trans (congrArg nI (by omega))))
                                        · refine ST.lift (fun _ _ k => T_aload_n (v := .ref 373) d_Mo_finish_443 rfl (Or.inr ⟨_, rfl⟩) k) ?_
                                          refine S_getfield d_Mo_finish_444 fg_Mo_425 (w373 _) rfl ?_
                                          refine ST.lift (fun _ _ k => T_bipush (v := nI 64) d_Mo_finish_447 (by decide) k) ?_
                                          refine ST.lift (fun _ _ k => T_iload_n d_Mo_finish_449 rfl k) ?_
                                          refine S_imulN d_Mo_finish_450 ?_
                                          refine S_topi (y := nI 192) (by decide) ?_
                                          refine ST.lift (fun _ _ k => T_iload d_Mo_finish_451 rfl k) ?_
                                          refine S_iaddN d_Mo_finish_453 ?_
                                          refine ST.lift (fun _ _ k => T_aload_n (v := .ref 373) d_Mo_finish_454 rfl (Or.inr ⟨_, rfl⟩) k) ?_
                                          refine S_getfield d_Mo_finish_455 fg_Mo_461 (w373 _) rfl ?_
                                          refine ST.lift (fun _ _ k => T_iload d_Mo_finish_458 rfl k) ?_
                                          refine S_iaload d_Mo_finish_460 a446 (vp_in_nI (by omega) (by omega)) (fun z125 => ?_)
                                          refine S_iastore d_Mo_finish_461 (by decide) a435 (vp_in_nI (by omega) (by omega)) ?_
                                          refine ST.lift (fun _ _ k => T_aload_n (v := .ref 373) d_Mo_finish_462 rfl (Or.inr ⟨_, rfl⟩) k) ?_
                                          refine S_getfield d_Mo_finish_463 fg_Mo_431 (w373 _) rfl ?_
                                          refine ST.lift (fun _ _ k => T_bipush (v := nI 64) d_Mo_finish_466 (by decide) k) ?_
                                          refine ST.lift (fun _ _ k => T_iload_n d_Mo_finish_468 rfl k) ?_
                                          refine S_imulN d_Mo_finish_469 ?_
                                          refine S_topi (y := nI 192) (by decide) ?_
                                          refine ST.lift (fun _ _ k => T_iload d_Mo_finish_470 rfl k) ?_
                                          refine S_iaddN d_Mo_finish_472 ?_
                                          refine ST.lift (fun _ _ k => T_aload_n (v := .ref 373) d_Mo_finish_473 rfl (Or.inr ⟨_, rfl⟩) k) ?_
                                          refine S_getfield d_Mo_finish_474 fg_Mo_464 (w373 _) rfl ?_
                                          refine ST.lift (fun _ _ k => T_iload d_Mo_finish_477 rfl k) ?_
                                          refine S_iaload d_Mo_finish_479 a447 (vp_in_nI (by omega) (by omega)) (fun z126 => ?_)
                                          refine S_iastore d_Mo_finish_480 (by decide) a437 (vp_in_nI (by omega) (by omega)) ?_
                                          refine ST.lift (fun _ _ k => T_aload_n (v := .ref 373) d_Mo_finish_481 rfl (Or.inr ⟨_, rfl⟩) k) ?_
                                          refine S_getfield d_Mo_finish_482 fg_Mo_437 (w373 _) rfl ?_
                                          refine ST.lift (fun _ _ k => T_bipush (v := nI 64) d_Mo_finish_485 (by decide) k) ?_
                                          refine ST.lift (fun _ _ k => T_iload_n d_Mo_finish_487 rfl k) ?_
                                          refine S_imulN d_Mo_finish_488 ?_
                                          refine S_topi (y := nI 192) (by decide) ?_
                                          refine ST.lift (fun _ _ k => T_iload d_Mo_finish_489 rfl k) ?_
                                          refine S_iaddN d_Mo_finish_491 ?_
                                          refine ST.lift (fun _ _ k => T_aload_n (v := .ref 373) d_Mo_finish_492 rfl (Or.inr ⟨_, rfl⟩) k) ?_
                                          refine S_getfield d_Mo_finish_493 fg_Mo_368 (w373 _) rfl ?_
                                          refine ST.lift (fun _ _ k => T_iload d_Mo_finish_496 rfl k) ?_
                                          refine S_iaload d_Mo_finish_498 a416 (vp_in_nI (by omega) (by omega)) (fun z127 => ?_)
                                          refine S_iastore d_Mo_finish_499 (by decide) a439 (vp_in_nI (by omega) (by omega)) ?_
                                          refine S_iincN (a := k100) (b := 1) (L' := [(4, .int (nI (k100 + 1))), (3, .int (nI 960)), (2, .int (nI 3)), (0, .ref 373), (1, .int (nI 3))]) d_Mo_finish_500 (by decide) rfl rfl rfl ?_
                                          refine ST.lift (fun _ _ k => T_goto (tgt := 436) d_Mo_finish_503 rfl k) ?_
                                          exact ih102 (64 - (k100 + 1)) (by omega) (k100 + 1)  rfl (by omega)
                                    exact lp103 _ 0  rfl (by omega)
                                  · refine ST.lift (fun _ _ k => T_aload_n (v := .ref 373) d_Mo_finish_402 rfl (Or.inr ⟨_, rfl⟩) k) ?_
                                    refine S_getfield d_Mo_finish_403 fg_Mo_458 (w373 _) rfl ?_
                                    refine ST.lift (fun _ _ k => T_iload d_Mo_finish_406 rfl k) ?_
                                    refine S_iaload d_Mo_finish_408 a445 (vp_in_nI (by omega) (by omega)) (fun z128 => ?_)
                                    refine ST.lift (fun _ _ k => T_aload_n (v := .ref 373) d_Mo_finish_409 rfl (Or.inr ⟨_, rfl⟩) k) ?_
                                    refine S_getfield d_Mo_finish_410 fg_Mo_422 (w373 _) rfl ?_
                                    refine ST.lift (fun _ _ k => T_iload_n d_Mo_finish_413 rfl k) ?_
                                    refine ST.lift (fun _ _ k => T_sipush (v := nI 256) d_Mo_finish_414 (by decide) k) ?_
                                    refine S_iaddN d_Mo_finish_417 ?_
                                    refine S_topi (y := nI 1216) (by decide) ?_
                                    refine ST.lift (fun _ _ k => T_iload d_Mo_finish_418 rfl k) ?_
                                    refine S_iaddN d_Mo_finish_420 ?_
                                    refine S_iaload d_Mo_finish_421 a434 (vp_in_nI (by omega) (by omega)) (fun z129 => ?_)
                                    refine S_icmp_eq d_Mo_finish_422 rfl (fun c130 => ?_) (fun c130 => ?_)
                                    · refine S_iincN (a := k93) (b := 1) (L' := [(4, .int (nI (k93 + 1))), (3, .int (nI 960)), (2, .int (nI 3)), (0, .ref 373), (1, .int (nI 3))]) d_Mo_finish_427 (by decide) rfl rfl rfl ?_
                                      refine ST.lift (fun _ _ k => T_goto (tgt := 395) d_Mo_finish_430 rfl k) ?_
                                      exact ih95 (64 - (k93 + 1)) (by omega) (k93 + 1)  rfl (by omega)
                                    · refine ST.lift (fun _ _ k => T_iconst (v := nI 4) d_Mo_finish_425 (by decide) k) ?_
                                      exact S_ret d_Mo_finish_426 rfl rfl (by decide) (by decide) (hQ _ _ hv86 hm89 (es_u85.trans (congrArg nI (by omega))))
                              exact lp96 _ 0  rfl (by omega)
                            · refine ST.lift (fun _ _ k => T_iconst (v := nI 1) d_Mo_finish_291 (by decide) k) ?_
                              exact S_ret d_Mo_finish_292 rfl rfl (by decide) (by decide) (hQ _ _ hv58 hm61 (es_u57.trans (congrArg nI (by omega))))
                        · refine ST.lift (fun _ _ k => T_aload_n (v := .ref 373) d_Mo_finish_231 rfl (Or.inr ⟨_, rfl⟩) k) ?_
                          refine S_getfield d_Mo_finish_232 fg_Mo_365 (w373 _) rfl ?_
                          refine ST.lift (fun _ _ k => T_iload d_Mo_finish_235 rfl k) ?_
                          refine S_iaload d_Mo_finish_237 a415 (vp_in_nI (by omega) (by omega)) (fun z131 => ?_)
                          refine ST.lift (fun _ _ k => T_aload_n (v := .ref 373) d_Mo_finish_238 rfl (Or.inr ⟨_, rfl⟩) k) ?_
                          refine S_getfield d_Mo_finish_239 fg_Mo_473 (w373 _) rfl ?_
                          refine ST.lift (fun _ _ k => T_bipush (v := nI 64) d_Mo_finish_242 (by decide) k) ?_
                          refine ST.lift (fun _ _ k => T_iload d_Mo_finish_244 rfl k) ?_
                          refine S_iaddN d_Mo_finish_246 ?_
                          refine S_iaload d_Mo_finish_247 a450 (vp_in_nI (by omega) (by omega)) (fun z132 => ?_)
                          refine S_icmp_eq d_Mo_finish_248 rfl (fun c133 => ?_) (fun c133 => ?_)
                          · refine S_iincN (a := k65) (b := 1) (L' := [(4, .int (nI (k65 + 1))), (3, .int (nI 960)), (2, .int (nI 3)), (0, .ref 373), (1, .int (nI 3))]) d_Mo_finish_253 (by decide) rfl rfl rfl ?_
                            refine ST.lift (fun _ _ k => T_goto (tgt := 224) d_Mo_finish_256 rfl k) ?_
                            exact ih67 (64 - (k65 + 1)) (by omega) (k65 + 1)  rfl (by omega)
                          · refine ST.lift (fun _ _ k => T_iconst (v := nI 3) d_Mo_finish_251 (by decide) k) ?_
                            exact S_ret d_Mo_finish_252 rfl rfl (by decide) (by decide) (hQ _ _ hv58 hm61 (es_u57.trans (congrArg nI (by omega))))
                    exact lp68 _ 0  rfl (by omega)
                  · refine ST.lift (fun _ _ k => T_aload_n (v := .ref 373) d_Mo_finish_189 rfl (Or.inr ⟨_, rfl⟩) k) ?_
                    refine S_getfield d_Mo_finish_190 fg_Mo_356 (w373 _) rfl ?_
                    refine ST.lift (fun _ _ k => T_iload d_Mo_finish_193 rfl k) ?_
                    refine ST.lift (fun _ _ k => T_aload_n (v := .ref 373) d_Mo_finish_195 rfl (Or.inr ⟨_, rfl⟩) k) ?_
                    refine S_getfield d_Mo_finish_196 fg_Mo_473 (w373 _) rfl ?_
                    refine ST.lift (fun _ _ k => T_bipush (v := nI 32) d_Mo_finish_199 (by decide) k) ?_
                    refine ST.lift (fun _ _ k => T_iload d_Mo_finish_201 rfl k) ?_
                    refine S_iaddN d_Mo_finish_203 ?_
                    refine S_iaload d_Mo_finish_204 a450 (vp_in_nI (by omega) (by omega)) (fun z134 => ?_)
                    refine S_iastore d_Mo_finish_205 (by decide) a412 (vp_in_nI (by omega) (by omega)) ?_
                    refine S_iincN (a := k49) (b := 1) (L' := [(4, .int (nI (k49 + 1))), (3, .int (nI 960)), (2, .int (nI 3)), (0, .ref 373), (1, .int (nI 3))]) d_Mo_finish_206 (by decide) rfl rfl rfl ?_
                    refine ST.lift (fun _ _ k => T_goto (tgt := 182) d_Mo_finish_209 rfl k) ?_
                    exact ih51 (32 - (k49 + 1)) (by omega) (k49 + 1)  rfl (by omega)
              exact lp52 _ 0  rfl (by omega)
            · refine ST.lift (fun _ _ k => T_aload_n (v := .ref 373) d_Mo_finish_146 rfl (Or.inr ⟨_, rfl⟩) k) ?_
              refine S_getfield d_Mo_finish_147 fg_Mo_473 (w373 _) rfl ?_
              refine ST.lift (fun _ _ k => T_iload d_Mo_finish_150 rfl k) ?_
              refine ST.lift (fun _ _ k => T_aload_n (v := .ref 373) d_Mo_finish_152 rfl (Or.inr ⟨_, rfl⟩) k) ?_
              refine S_getfield d_Mo_finish_153 fg_Mo_422 (w373 _) rfl ?_
              refine ST.lift (fun _ _ k => T_iload_n d_Mo_finish_156 rfl k) ?_
              refine ST.lift (fun _ _ k => T_bipush (v := nI 64) d_Mo_finish_157 (by decide) k) ?_
              refine S_iaddN d_Mo_finish_159 ?_
              refine S_topi (y := nI 1024) (by decide) ?_
              refine ST.lift (fun _ _ k => T_iload d_Mo_finish_160 rfl k) ?_
              refine S_iaddN d_Mo_finish_162 ?_
              refine S_iaload d_Mo_finish_163 a434 (vp_in_nI (by omega) (by omega)) (fun z135 => ?_)
              refine ST.lift (fun _ _ k => T_aload_n (v := .ref 373) d_Mo_finish_164 rfl (Or.inr ⟨_, rfl⟩) k) ?_
              refine S_getfield d_Mo_finish_165 fg_Mo_467 (w373 _) rfl ?_
              refine ST.lift (fun _ _ k => T_iload d_Mo_finish_168 rfl k) ?_
              refine S_iaload d_Mo_finish_170 a448 (vp_in_nI (by omega) (by omega)) (fun z136 => ?_)
              refine ST.lift (fun _ _ k => T_ixor d_Mo_finish_171 k) (S_anyi fun z137 => ?_)
              refine S_iastore d_Mo_finish_172 (by decide) a450 (vp_in_nI (by omega) (by omega)) ?_
              refine S_iincN (a := k39) (b := 1) (L' := [(4, .int (nI (k39 + 1))), (3, .int (nI 960)), (2, .int (nI 3)), (0, .ref 373), (1, .int (nI 3))]) d_Mo_finish_173 (by decide) rfl rfl rfl ?_
              refine ST.lift (fun _ _ k => T_goto (tgt := 138) d_Mo_finish_176 rfl k) ?_
              exact ih41 (128 - (k39 + 1)) (by omega) (k39 + 1)  rfl (by omega)
        exact lp42 _ 0  rfl (by omega)
      · refine ST.lift (fun _ _ k => T_iconst (v := nI 1) d_Mo_finish_63 (by decide) k) ?_
        exact S_ret d_Mo_finish_64 rfl rfl (by decide) (by decide) (hQ _ _ hv8 hm9 (e10.trans (congrArg nI (by omega))))
    · refine ST.lift (fun _ _ k => T_iconst (v := nI 2) d_Mo_finish_32 (by decide) k) ?_
      exact S_ret d_Mo_finish_33 rfl rfl (by decide) (by decide) (hQ _ _ hv2 hm3 (e4.trans (congrArg nI (by omega))))
set_option maxRecDepth 100000 in
set_option maxHeartbeats 4000000 in
theorem c_Mo_accept_3 (G : GX) (v : Nat → Int32) (e67 : v 67 = nI 0) (hv : okv v) : CS G mi_Mo_accept [.ref 373, .int (nI 3)] v (fun r v' => ∃ z : Int32, r = some (.int z) ∧ okv v' ∧ mdf [66, 67, 70, 68, 69, 72, 75, 91, 95, 99, 103, 107, 111, 115, 119, 123, 127] v v' ∧ v' 67 = nI 0) := by
  refine CS.of (by decide) (Nat.le_of_ble_eq_true rfl) ?_
  generalize hQe : (fun (r : Option Value) (v' : Nat → Int32) => ∃ z : Int32, r = some (.int z) ∧ okv v' ∧ mdf [66, 67, 70, 68, 69, 72, 75, 91, 95, 99, 103, 107, 111, 115, 119, 123, 127] v v' ∧ v' 67 = nI 0) = Q
  have hQ : ∀ (z : Int32) (u : Nat → Int32), okv u → mdf [66, 67, 70, 68, 69, 72, 75, 91, 95, 99, 103, 107, 111, 115, 119, 123, 127] v u → u 67 = nI 0 → Q (some (.int z)) u := by rw [← hQe]; exact fun z u h1 h2 f0 => ⟨z, rfl, h1, h2, f0⟩
  clear hQe
  have hm : mdf [66, 67, 70, 68, 69, 72, 75, 91, 95, 99, 103, 107, 111, 115, 119, 123, 127] v v := mdf.rf
  show ST G mi_Mo_accept 0 [(0, .ref 373), (1, .int (nI 3))] [] v 0 0 Q
  refine ST.lift (fun _ _ k => T_aload_n (v := .ref 373) d_Mo_accept_0 rfl (Or.inr ⟨_, rfl⟩) k) ?_
  refine ST.lift (fun _ _ k => T_iconst (v := nI 0) d_Mo_accept_1 (by decide) k) ?_
  refine S_putfield (v' := va_up v 66 (nI 0)) d_Mo_accept_2 (fp_Mo_316 _) (w373 _) (Nat.le_of_ble_eq_true rfl) ⟨rfl, rfl⟩ (u373_0 _ _) ?_
  have hv2 := hv.off (j := 66) (x := (nI 0)) (by decide)
  have hm3 := hm.go (mdf.up (v := v) (j := 66) (x := (nI 0))) (by intro i hi; simp only [List.mem_cons, List.not_mem_nil, or_false] at hi ⊢ <;> omega)
  have e_u1 : (va_up v 66 (nI 0)) 66 = (nI 0) := by simp [va_up]
  have e4 : (va_up v 66 (nI 0)) 67 = nI 0 := by simp only [va_up]; exact e67
  generalize va_up v 66 (nI 0) = u1 at hv2 hm3 e_u1 e4 ⊢
  refine ST.lift (fun _ _ k => T_iload_n d_Mo_accept_5 rfl k) ?_
  refine S_static (as := [.int (nI 3)]) (rest := []) d_Mo_accept_6 rfl (jw_Mo_isSession.jo (by decide)) lm_Mo_545 jt_Mo_isSession rfl (Nat.le_of_ble_eq_true rfl) (by decide) (by decide) (c_Mo_isSession G u1 3 (by omega)) (fun r v' hq => ?_)
  rw [hq.1, hq.2]
  clear hq r v'
  show ST G mi_Mo_accept 9 [(0, .ref 373), (1, .int (nI 3))] [.int (nI 1)] u1 0 0 _
  refine S_if_neN d_Mo_accept_9 rfl (by omega) (fun _ => ?_) (fun c => by first | exact absurd c (by omega) | exact c.elim | exact absurd c (by decide) | exact absurd (by assumption) c | exact absurd c (by assumption))
  refine ST.lift (fun _ _ k => T_aload_n (v := .ref 373) d_Mo_accept_14 rfl (Or.inr ⟨_, rfl⟩) k) ?_
  refine S_getfield d_Mo_accept_15 fg_Mo_398 (w373 _) rfl ?_
  refine ST.lift (fun _ _ k => T_iload_n d_Mo_accept_18 rfl k) ?_
  refine S_xload (t := 3) (k := 3) (Or.inr ⟨rfl, d_Mo_accept_19⟩) rfl (w426 _) (by decide) (by decide) ?_
  refine S_topi (y := u1 107) rfl ?_
  refine S_if_eq d_Mo_accept_20 rfl (fun c5 => ?_) (fun c5 => ?_)
  · refine ST.lift (fun _ _ k => T_iconst (v := nI 2) d_Mo_accept_32 (by decide) k) ?_
    exact S_ret d_Mo_accept_33 rfl rfl (by decide) (by decide) (hQ _ _ hv2 hm3 (e4.trans (congrArg nI (by omega))))
  · refine ST.lift (fun _ _ k => T_aload_n (v := .ref 373) d_Mo_accept_23 rfl (Or.inr ⟨_, rfl⟩) k) ?_
    refine S_getfield d_Mo_accept_24 fg_Mo_407 (w373 _) rfl ?_
    refine ST.lift (fun _ _ k => T_iload_n d_Mo_accept_27 rfl k) ?_
    refine S_xload (t := 3) (k := 3) (Or.inr ⟨rfl, d_Mo_accept_28⟩) rfl (w429 _) (by decide) (by decide) ?_
    refine S_topi (y := u1 119) rfl ?_
    refine S_if_eq d_Mo_accept_29 rfl (fun c6 => ?_) (fun c6 => ?_)
    · refine ST.lift (fun _ _ k => T_aload_n (v := .ref 373) d_Mo_accept_34 rfl (Or.inr ⟨_, rfl⟩) k) ?_
      refine S_getfield d_Mo_accept_35 fg_Mo_407 (w373 _) rfl ?_
      refine ST.lift (fun _ _ k => T_iload_n d_Mo_accept_38 rfl k) ?_
      refine ST.lift (fun _ _ k => T_iconst (v := nI 1) d_Mo_accept_39 (by decide) k) ?_
      refine S_xstore (k := 3) (y := (nI 1)) (v' := va_up u1 119 (nI 1)) (Or.inr ⟨rfl, by decide, d_Mo_accept_40⟩) (by decide) rfl (w429 _) (by decide) (by decide) (x429_3 _ _) ?_
      have hv8 := hv2.off (j := 119) (x := (nI 1)) (by decide)
      have hm9 := hm3.go (mdf.up (v := u1) (j := 119) (x := (nI 1))) (by intro i hi; simp only [List.mem_cons, List.not_mem_nil, or_false] at hi ⊢ <;> omega)
      have e_u7 : (va_up u1 119 (nI 1)) 119 = (nI 1) := by simp [va_up]
      have e10 : (va_up u1 119 (nI 1)) 67 = nI 0 := by simp only [va_up]; exact e4
      have e11 : (va_up u1 119 (nI 1)) 66 = nI 0 := by simp only [va_up]; exact e_u1
      generalize va_up u1 119 (nI 1) = u7 at hv8 hm9 e_u7 e10 e11 ⊢
      refine ST.lift (fun _ _ k => T_iconst (v := nI 0) d_Mo_accept_41 (by decide) k) ?_
      refine ST.lift (fun _ _ k => T_istore_n (L' := [(2, .int (nI 0)), (0, .ref 373), (1, .int (nI 3))]) d_Mo_accept_42 (by decide) rfl k) ?_
      have lp15 : ∀ (n13 k12 : Nat), 64 - k12 = n13 → 0 ≤ k12 ∧ k12 ≤ 0 + 64 → ST G mi_Mo_accept 43 [(2, .int (nI k12)), (0, .ref 373), (1, .int (nI 3))] [] u7 0 0 Q := by
        intro n13
        induction n13 using Nat.strongRecOn with
        | _ n13 ih14 =>
          intro k12 h16 h17
          refine ST.lift (fun _ _ k => T_iload_n d_Mo_accept_43 rfl k) ?_
          refine ST.lift (fun _ _ k => T_bipush (v := nI 64) d_Mo_accept_44 (by decide) k) ?_
          refine S_icmp_geN d_Mo_accept_46 rfl (by omega) (by omega) (fun c18 => ?_) (fun c18 => ?_)
          · refine ST.lift (fun _ _ k => T_aload_n (v := .ref 373) d_Mo_accept_82 rfl (Or.inr ⟨_, rfl⟩) k) ?_
            refine S_getfield d_Mo_accept_83 fg_Mo_413 (w373 _) rfl ?_
            refine ST.lift (fun _ _ k => T_iload_n d_Mo_accept_86 rfl k) ?_
            refine ST.lift (fun _ _ k => T_iconst (v := nI 1) d_Mo_accept_87 (by decide) k) ?_
            refine S_xstore (k := 3) (y := (nI 1)) (v' := va_up u7 127 (nI 1)) (Or.inr ⟨rfl, by decide, d_Mo_accept_88⟩) (by decide) rfl (w431 _) (by decide) (by decide) (x431_3 _ _) ?_
            have hv20 := hv8.off (j := 127) (x := (nI 1)) (by decide)
            have hm21 := hm9.go (mdf.up (v := u7) (j := 127) (x := (nI 1))) (by intro i hi; simp only [List.mem_cons, List.not_mem_nil, or_false] at hi ⊢ <;> omega)
            have e_u19 : (va_up u7 127 (nI 1)) 127 = (nI 1) := by simp [va_up]
            have e22 : (va_up u7 127 (nI 1)) 67 = nI 0 := by simp only [va_up]; exact e10
            have e23 : (va_up u7 127 (nI 1)) 66 = nI 0 := by simp only [va_up]; exact e11
            have e24 : (va_up u7 127 (nI 1)) 119 = nI 1 := by simp only [va_up]; exact e_u7
            generalize va_up u7 127 (nI 1) = u19 at hv20 hm21 e_u19 e22 e23 e24 ⊢
            refine ST.lift (fun _ _ k => T_iconst (v := nI 0) d_Mo_accept_89 (by decide) k) ?_
            exact S_ret d_Mo_accept_90 rfl rfl (by decide) (by decide) (hQ _ _ hv20 hm21 (e22.trans (congrArg nI (by omega))))
          · refine ST.lift (fun _ _ k => T_aload_n (v := .ref 373) d_Mo_accept_49 rfl (Or.inr ⟨_, rfl⟩) k) ?_
            refine S_getfield d_Mo_accept_50 fg_Mo_425 (w373 _) rfl ?_
            refine ST.lift (fun _ _ k => T_bipush (v := nI 64) d_Mo_accept_53 (by decide) k) ?_
            refine ST.lift (fun _ _ k => T_iload_n d_Mo_accept_55 rfl k) ?_
            refine S_imulN d_Mo_accept_56 ?_
            refine S_topi (y := nI 192) (by decide) ?_
            refine ST.lift (fun _ _ k => T_iload_n d_Mo_accept_57 rfl k) ?_
            refine S_iaddN d_Mo_accept_58 ?_
            refine S_iaload d_Mo_accept_59 a435 (vp_in_nI (by omega) (by omega)) (fun z25 => ?_)
            refine ST.lift (fun _ _ k => T_aload_n (v := .ref 373) d_Mo_accept_60 rfl (Or.inr ⟨_, rfl⟩) k) ?_
            refine S_getfield d_Mo_accept_61 fg_Mo_428 (w373 _) rfl ?_
            refine ST.lift (fun _ _ k => T_bipush (v := nI 64) d_Mo_accept_64 (by decide) k) ?_
            refine ST.lift (fun _ _ k => T_iload_n d_Mo_accept_66 rfl k) ?_
            refine S_imulN d_Mo_accept_67 ?_
            refine S_topi (y := nI 192) (by decide) ?_
            refine ST.lift (fun _ _ k => T_iload_n d_Mo_accept_68 rfl k) ?_
            refine S_iaddN d_Mo_accept_69 ?_
            refine S_iaload d_Mo_accept_70 a436 (vp_in_nI (by omega) (by omega)) (fun z26 => ?_)
            refine S_icmp_eq d_Mo_accept_71 rfl (fun c27 => ?_) (fun c27 => ?_)
            · refine S_iincN (a := k12) (b := 1) (L' := [(2, .int (nI (k12 + 1))), (0, .ref 373), (1, .int (nI 3))]) d_Mo_accept_76 (by decide) rfl rfl rfl ?_
              refine ST.lift (fun _ _ k => T_goto (tgt := 43) d_Mo_accept_79 rfl k) ?_
              exact ih14 (64 - (k12 + 1)) (by omega) (k12 + 1)  rfl (by omega)
            · refine ST.lift (fun _ _ k => T_iconst (v := nI 5) d_Mo_accept_74 (by decide) k) ?_
              exact S_ret d_Mo_accept_75 rfl rfl (by decide) (by decide) (hQ _ _ hv8 hm9 (e10.trans (congrArg nI (by omega))))
      exact lp15 _ 0  rfl (by omega)
    · refine ST.lift (fun _ _ k => T_iconst (v := nI 2) d_Mo_accept_32 (by decide) k) ?_
      exact S_ret d_Mo_accept_33 rfl rfl (by decide) (by decide) (hQ _ _ hv2 hm3 (e4.trans (congrArg nI (by omega))))
set_option maxRecDepth 100000 in
set_option maxHeartbeats 4000000 in
theorem c_Mo_begin_sneg (G : GX) (v : Nat → Int32) (x : Int32) (y : Int32) (hx_s : x < 0) (hv : okv v) : CS G mi_Mo_begin [.ref 373, .int x, .int y] v (fun r v' => r = some (.int (-1)) ∧ okv v' ∧ mdf [66, 73] v v' ∧ v' 73 = nI 0) := by
  refine CS.of (by decide) (Nat.le_of_ble_eq_true rfl) ?_
  generalize hQe : (fun (r : Option Value) (v' : Nat → Int32) => r = some (.int (-1)) ∧ okv v' ∧ mdf [66, 73] v v' ∧ v' 73 = nI 0) = Q
  have hQ : ∀ u, okv u → mdf [66, 73] v u → u 73 = nI 0 → Q (some (.int (-1))) u := by rw [← hQe]; exact fun u h1 h2 f0 => ⟨rfl, h1, h2, f0⟩
  clear hQe
  have hm : mdf [66, 73] v v := mdf.rf
  show ST G mi_Mo_begin 0 [(0, .ref 373), (1, .int x), (2, .int y)] [] v 0 0 Q
  refine ST.lift (fun _ _ k => T_aload_n (v := .ref 373) d_Mo_begin_0 rfl (Or.inr ⟨_, rfl⟩) k) ?_
  refine ST.lift (fun _ _ k => T_iconst (v := nI 0) d_Mo_begin_1 (by decide) k) ?_
  refine S_putfield (v' := va_up v 66 (nI 0)) d_Mo_begin_2 (fp_Mo_316 _) (w373 _) (Nat.le_of_ble_eq_true rfl) ⟨rfl, rfl⟩ (u373_0 _ _) ?_
  have hv2 := hv.off (j := 66) (x := (nI 0)) (by decide)
  have hm3 := hm.go (mdf.up (v := v) (j := 66) (x := (nI 0))) (by intro i hi; simp only [List.mem_cons, List.not_mem_nil, or_false] at hi ⊢ <;> omega)
  have e_u1 : (va_up v 66 (nI 0)) 66 = (nI 0) := by simp [va_up]
  generalize va_up v 66 (nI 0) = u1 at hv2 hm3 e_u1 ⊢
  refine ST.lift (fun _ _ k => T_aload_n (v := .ref 373) d_Mo_begin_5 rfl (Or.inr ⟨_, rfl⟩) k) ?_
  obtain ⟨k4, hk4, ek4⟩ := hv2.get (j := 73) (c := 200) (by decide)
  refine S_getfield d_Mo_begin_6 fg_Mo_344 (w373 _) rfl ?_
  refine S_topi (y := nI k4) (ek4) ?_
  refine ST.lift (fun _ _ k => T_istore_n (L' := [(3, .int (nI k4)), (0, .ref 373), (1, .int x), (2, .int y)]) d_Mo_begin_9 (by decide) rfl k) ?_
  refine ST.lift (fun _ _ k => T_aload_n (v := .ref 373) d_Mo_begin_10 rfl (Or.inr ⟨_, rfl⟩) k) ?_
  refine ST.lift (fun _ _ k => T_iconst (v := nI 0) d_Mo_begin_11 (by decide) k) ?_
  refine S_putfield (v' := va_up u1 73 (nI 0)) d_Mo_begin_12 (fp_Mo_344 _) (w373 _) (Nat.le_of_ble_eq_true rfl) ⟨rfl, rfl⟩ (u373_43 _ _) ?_
  have hv6 := hv2.up (j := 73) (c := 200) (k := 0) (by decide) (by omega)
  have hm7 := hm3.go (mdf.up (v := u1) (j := 73) (x := (nI 0))) (by intro i hi; simp only [List.mem_cons, List.not_mem_nil, or_false] at hi ⊢ <;> omega)
  have e_u5 : (va_up u1 73 (nI 0)) 73 = (nI 0) := by simp [va_up]
  have e8 : (va_up u1 73 (nI 0)) 66 = nI 0 := by simp only [va_up]; exact e_u1
  generalize va_up u1 73 (nI 0) = u5 at hv6 hm7 e_u5 e8 ⊢
  refine ST.lift (fun _ _ k => T_iload_n d_Mo_begin_15 rfl k) ?_
  refine S_static (as := [.int x]) (rest := []) d_Mo_begin_16 rfl (jw_Mo_isSession.jo (by decide)) lm_Mo_545 jt_Mo_isSession rfl (Nat.le_of_ble_eq_true rfl) (by decide) (by decide) (c_Mo_isSession_neg G u5 x hx_s) (fun r v' hq => ?_)
  rw [hq.1, hq.2]
  clear hq r v'
  show ST G mi_Mo_begin 19 [(3, .int (nI k4)), (0, .ref 373), (1, .int x), (2, .int y)] [.int (nI 0)] u5 0 0 _
  refine S_if_eqN d_Mo_begin_19 rfl (by omega) (fun _ => ?_) (fun c => by first | exact absurd c (by omega) | exact c.elim | exact absurd c (by decide) | exact absurd (by assumption) c | exact absurd c (by assumption))
  refine ST.lift (fun _ _ k => T_iconst (v := -1) d_Mo_begin_32 (by decide) k) ?_
  exact S_ret d_Mo_begin_33 rfl rfl (by decide) (by decide) (hQ _ hv6 hm7 (e_u5.trans (congrArg nI (by omega))))
set_option maxRecDepth 100000 in
set_option maxHeartbeats 4000000 in
theorem c_Mo_answer_sneg (G : GX) (v : Nat → Int32) (x : Int32) (hx_s : x < 0) (hv : okv v) : CS G mi_Mo_answer [.ref 373, .int x] v (fun r v' => r = some (.int (-1)) ∧ okv v' ∧ mdf [66] v v') := by
  refine CS.of (by decide) (Nat.le_of_ble_eq_true rfl) ?_
  generalize hQe : (fun (r : Option Value) (v' : Nat → Int32) => r = some (.int (-1)) ∧ okv v' ∧ mdf [66] v v') = Q
  have hQ : ∀ u, okv u → mdf [66] v u → Q (some (.int (-1))) u := by rw [← hQe]; exact fun u h1 h2  => ⟨rfl, h1, h2⟩
  clear hQe
  have hm : mdf [66] v v := mdf.rf
  show ST G mi_Mo_answer 0 [(0, .ref 373), (1, .int x)] [] v 0 0 Q
  refine ST.lift (fun _ _ k => T_aload_n (v := .ref 373) d_Mo_answer_0 rfl (Or.inr ⟨_, rfl⟩) k) ?_
  refine ST.lift (fun _ _ k => T_iconst (v := nI 0) d_Mo_answer_1 (by decide) k) ?_
  refine S_putfield (v' := va_up v 66 (nI 0)) d_Mo_answer_2 (fp_Mo_316 _) (w373 _) (Nat.le_of_ble_eq_true rfl) ⟨rfl, rfl⟩ (u373_0 _ _) ?_
  have hv2 := hv.off (j := 66) (x := (nI 0)) (by decide)
  have hm3 := hm.go (mdf.up (v := v) (j := 66) (x := (nI 0))) (by intro i hi; simp only [List.mem_cons, List.not_mem_nil, or_false] at hi ⊢ <;> omega)
  have e_u1 : (va_up v 66 (nI 0)) 66 = (nI 0) := by simp [va_up]
  generalize va_up v 66 (nI 0) = u1 at hv2 hm3 e_u1 ⊢
  refine ST.lift (fun _ _ k => T_iload_n d_Mo_answer_5 rfl k) ?_
  refine S_static (as := [.int x]) (rest := []) d_Mo_answer_6 rfl (jw_Mo_isSession.jo (by decide)) lm_Mo_545 jt_Mo_isSession rfl (Nat.le_of_ble_eq_true rfl) (by decide) (by decide) (c_Mo_isSession_neg G u1 x hx_s) (fun r v' hq => ?_)
  rw [hq.1, hq.2]
  clear hq r v'
  show ST G mi_Mo_answer 9 [(0, .ref 373), (1, .int x)] [.int (nI 0)] u1 0 0 _
  refine S_if_neN d_Mo_answer_9 rfl (by omega) (fun c => by first | exact absurd c (by omega) | exact c.elim | exact absurd c (by decide) | exact absurd (by assumption) c | exact absurd c (by assumption)) (fun _ => ?_)
  refine ST.lift (fun _ _ k => T_iconst (v := -1) d_Mo_answer_12 (by decide) k) ?_
  exact S_ret d_Mo_answer_13 rfl rfl (by decide) (by decide) (hQ _ hv2 hm3)
set_option maxRecDepth 100000 in
set_option maxHeartbeats 4000000 in
theorem c_Mo_finish_sneg (G : GX) (v : Nat → Int32) (x : Int32) (hx_s : x < 0) (hv : okv v) : CS G mi_Mo_finish [.ref 373, .int x] v (fun r v' => r = some (.int (-1)) ∧ okv v' ∧ mdf [66] v v') := by
  refine CS.of (by decide) (Nat.le_of_ble_eq_true rfl) ?_
  generalize hQe : (fun (r : Option Value) (v' : Nat → Int32) => r = some (.int (-1)) ∧ okv v' ∧ mdf [66] v v') = Q
  have hQ : ∀ u, okv u → mdf [66] v u → Q (some (.int (-1))) u := by rw [← hQe]; exact fun u h1 h2  => ⟨rfl, h1, h2⟩
  clear hQe
  have hm : mdf [66] v v := mdf.rf
  show ST G mi_Mo_finish 0 [(0, .ref 373), (1, .int x)] [] v 0 0 Q
  refine ST.lift (fun _ _ k => T_aload_n (v := .ref 373) d_Mo_finish_0 rfl (Or.inr ⟨_, rfl⟩) k) ?_
  refine ST.lift (fun _ _ k => T_iconst (v := nI 0) d_Mo_finish_1 (by decide) k) ?_
  refine S_putfield (v' := va_up v 66 (nI 0)) d_Mo_finish_2 (fp_Mo_316 _) (w373 _) (Nat.le_of_ble_eq_true rfl) ⟨rfl, rfl⟩ (u373_0 _ _) ?_
  have hv2 := hv.off (j := 66) (x := (nI 0)) (by decide)
  have hm3 := hm.go (mdf.up (v := v) (j := 66) (x := (nI 0))) (by intro i hi; simp only [List.mem_cons, List.not_mem_nil, or_false] at hi ⊢ <;> omega)
  have e_u1 : (va_up v 66 (nI 0)) 66 = (nI 0) := by simp [va_up]
  generalize va_up v 66 (nI 0) = u1 at hv2 hm3 e_u1 ⊢
  refine ST.lift (fun _ _ k => T_iload_n d_Mo_finish_5 rfl k) ?_
  refine S_static (as := [.int x]) (rest := []) d_Mo_finish_6 rfl (jw_Mo_isSession.jo (by decide)) lm_Mo_545 jt_Mo_isSession rfl (Nat.le_of_ble_eq_true rfl) (by decide) (by decide) (c_Mo_isSession_neg G u1 x hx_s) (fun r v' hq => ?_)
  rw [hq.1, hq.2]
  clear hq r v'
  show ST G mi_Mo_finish 9 [(0, .ref 373), (1, .int x)] [.int (nI 0)] u1 0 0 _
  refine S_if_neN d_Mo_finish_9 rfl (by omega) (fun c => by first | exact absurd c (by omega) | exact c.elim | exact absurd c (by decide) | exact absurd (by assumption) c | exact absurd c (by assumption)) (fun _ => ?_)
  refine ST.lift (fun _ _ k => T_iconst (v := -1) d_Mo_finish_12 (by decide) k) ?_
  exact S_ret d_Mo_finish_13 rfl rfl (by decide) (by decide) (hQ _ hv2 hm3)
set_option maxRecDepth 100000 in
set_option maxHeartbeats 4000000 in
theorem c_Mo_accept_sneg (G : GX) (v : Nat → Int32) (x : Int32) (hx_s : x < 0) (hv : okv v) : CS G mi_Mo_accept [.ref 373, .int x] v (fun r v' => r = some (.int (-1)) ∧ okv v' ∧ mdf [66] v v') := by
  refine CS.of (by decide) (Nat.le_of_ble_eq_true rfl) ?_
  generalize hQe : (fun (r : Option Value) (v' : Nat → Int32) => r = some (.int (-1)) ∧ okv v' ∧ mdf [66] v v') = Q
  have hQ : ∀ u, okv u → mdf [66] v u → Q (some (.int (-1))) u := by rw [← hQe]; exact fun u h1 h2  => ⟨rfl, h1, h2⟩
  clear hQe
  have hm : mdf [66] v v := mdf.rf
  show ST G mi_Mo_accept 0 [(0, .ref 373), (1, .int x)] [] v 0 0 Q
  refine ST.lift (fun _ _ k => T_aload_n (v := .ref 373) d_Mo_accept_0 rfl (Or.inr ⟨_, rfl⟩) k) ?_
  refine ST.lift (fun _ _ k => T_iconst (v := nI 0) d_Mo_accept_1 (by decide) k) ?_
  refine S_putfield (v' := va_up v 66 (nI 0)) d_Mo_accept_2 (fp_Mo_316 _) (w373 _) (Nat.le_of_ble_eq_true rfl) ⟨rfl, rfl⟩ (u373_0 _ _) ?_
  have hv2 := hv.off (j := 66) (x := (nI 0)) (by decide)
  have hm3 := hm.go (mdf.up (v := v) (j := 66) (x := (nI 0))) (by intro i hi; simp only [List.mem_cons, List.not_mem_nil, or_false] at hi ⊢ <;> omega)
  have e_u1 : (va_up v 66 (nI 0)) 66 = (nI 0) := by simp [va_up]
  generalize va_up v 66 (nI 0) = u1 at hv2 hm3 e_u1 ⊢
  refine ST.lift (fun _ _ k => T_iload_n d_Mo_accept_5 rfl k) ?_
  refine S_static (as := [.int x]) (rest := []) d_Mo_accept_6 rfl (jw_Mo_isSession.jo (by decide)) lm_Mo_545 jt_Mo_isSession rfl (Nat.le_of_ble_eq_true rfl) (by decide) (by decide) (c_Mo_isSession_neg G u1 x hx_s) (fun r v' hq => ?_)
  rw [hq.1, hq.2]
  clear hq r v'
  show ST G mi_Mo_accept 9 [(0, .ref 373), (1, .int x)] [.int (nI 0)] u1 0 0 _
  refine S_if_neN d_Mo_accept_9 rfl (by omega) (fun c => by first | exact absurd c (by omega) | exact c.elim | exact absurd c (by decide) | exact absurd (by assumption) c | exact absurd c (by assumption)) (fun _ => ?_)
  refine ST.lift (fun _ _ k => T_iconst (v := -1) d_Mo_accept_12 (by decide) k) ?_
  exact S_ret d_Mo_accept_13 rfl rfl (by decide) (by decide) (hQ _ hv2 hm3)
set_option maxRecDepth 100000 in
set_option maxHeartbeats 4000000 in
theorem c_Mo_begin_sbig (G : GX) (v : Nat → Int32) (x : Int32) (y : Int32) (h0_s : ¬ x < 0) (hx_s : nI 4 ≤ x) (hv : okv v) : CS G mi_Mo_begin [.ref 373, .int x, .int y] v (fun r v' => r = some (.int (-1)) ∧ okv v' ∧ mdf [66, 73] v v' ∧ v' 73 = nI 0) := by
  refine CS.of (by decide) (Nat.le_of_ble_eq_true rfl) ?_
  generalize hQe : (fun (r : Option Value) (v' : Nat → Int32) => r = some (.int (-1)) ∧ okv v' ∧ mdf [66, 73] v v' ∧ v' 73 = nI 0) = Q
  have hQ : ∀ u, okv u → mdf [66, 73] v u → u 73 = nI 0 → Q (some (.int (-1))) u := by rw [← hQe]; exact fun u h1 h2 f0 => ⟨rfl, h1, h2, f0⟩
  clear hQe
  have hm : mdf [66, 73] v v := mdf.rf
  show ST G mi_Mo_begin 0 [(0, .ref 373), (1, .int x), (2, .int y)] [] v 0 0 Q
  refine ST.lift (fun _ _ k => T_aload_n (v := .ref 373) d_Mo_begin_0 rfl (Or.inr ⟨_, rfl⟩) k) ?_
  refine ST.lift (fun _ _ k => T_iconst (v := nI 0) d_Mo_begin_1 (by decide) k) ?_
  refine S_putfield (v' := va_up v 66 (nI 0)) d_Mo_begin_2 (fp_Mo_316 _) (w373 _) (Nat.le_of_ble_eq_true rfl) ⟨rfl, rfl⟩ (u373_0 _ _) ?_
  have hv2 := hv.off (j := 66) (x := (nI 0)) (by decide)
  have hm3 := hm.go (mdf.up (v := v) (j := 66) (x := (nI 0))) (by intro i hi; simp only [List.mem_cons, List.not_mem_nil, or_false] at hi ⊢ <;> omega)
  have e_u1 : (va_up v 66 (nI 0)) 66 = (nI 0) := by simp [va_up]
  generalize va_up v 66 (nI 0) = u1 at hv2 hm3 e_u1 ⊢
  refine ST.lift (fun _ _ k => T_aload_n (v := .ref 373) d_Mo_begin_5 rfl (Or.inr ⟨_, rfl⟩) k) ?_
  obtain ⟨k4, hk4, ek4⟩ := hv2.get (j := 73) (c := 200) (by decide)
  refine S_getfield d_Mo_begin_6 fg_Mo_344 (w373 _) rfl ?_
  refine S_topi (y := nI k4) (ek4) ?_
  refine ST.lift (fun _ _ k => T_istore_n (L' := [(3, .int (nI k4)), (0, .ref 373), (1, .int x), (2, .int y)]) d_Mo_begin_9 (by decide) rfl k) ?_
  refine ST.lift (fun _ _ k => T_aload_n (v := .ref 373) d_Mo_begin_10 rfl (Or.inr ⟨_, rfl⟩) k) ?_
  refine ST.lift (fun _ _ k => T_iconst (v := nI 0) d_Mo_begin_11 (by decide) k) ?_
  refine S_putfield (v' := va_up u1 73 (nI 0)) d_Mo_begin_12 (fp_Mo_344 _) (w373 _) (Nat.le_of_ble_eq_true rfl) ⟨rfl, rfl⟩ (u373_43 _ _) ?_
  have hv6 := hv2.up (j := 73) (c := 200) (k := 0) (by decide) (by omega)
  have hm7 := hm3.go (mdf.up (v := u1) (j := 73) (x := (nI 0))) (by intro i hi; simp only [List.mem_cons, List.not_mem_nil, or_false] at hi ⊢ <;> omega)
  have e_u5 : (va_up u1 73 (nI 0)) 73 = (nI 0) := by simp [va_up]
  have e8 : (va_up u1 73 (nI 0)) 66 = nI 0 := by simp only [va_up]; exact e_u1
  generalize va_up u1 73 (nI 0) = u5 at hv6 hm7 e_u5 e8 ⊢
  refine ST.lift (fun _ _ k => T_iload_n d_Mo_begin_15 rfl k) ?_
  refine S_static (as := [.int x]) (rest := []) d_Mo_begin_16 rfl (jw_Mo_isSession.jo (by decide)) lm_Mo_545 jt_Mo_isSession rfl (Nat.le_of_ble_eq_true rfl) (by decide) (by decide) (c_Mo_isSession_big G u5 x h0_s hx_s) (fun r v' hq => ?_)
  rw [hq.1, hq.2]
  clear hq r v'
  show ST G mi_Mo_begin 19 [(3, .int (nI k4)), (0, .ref 373), (1, .int x), (2, .int y)] [.int (nI 0)] u5 0 0 _
  refine S_if_eqN d_Mo_begin_19 rfl (by omega) (fun _ => ?_) (fun c => by first | exact absurd c (by omega) | exact c.elim | exact absurd c (by decide) | exact absurd (by assumption) c | exact absurd c (by assumption))
  refine ST.lift (fun _ _ k => T_iconst (v := -1) d_Mo_begin_32 (by decide) k) ?_
  exact S_ret d_Mo_begin_33 rfl rfl (by decide) (by decide) (hQ _ hv6 hm7 (e_u5.trans (congrArg nI (by omega))))
set_option maxRecDepth 100000 in
set_option maxHeartbeats 4000000 in
theorem c_Mo_answer_sbig (G : GX) (v : Nat → Int32) (x : Int32) (h0_s : ¬ x < 0) (hx_s : nI 4 ≤ x) (hv : okv v) : CS G mi_Mo_answer [.ref 373, .int x] v (fun r v' => r = some (.int (-1)) ∧ okv v' ∧ mdf [66] v v') := by
  refine CS.of (by decide) (Nat.le_of_ble_eq_true rfl) ?_
  generalize hQe : (fun (r : Option Value) (v' : Nat → Int32) => r = some (.int (-1)) ∧ okv v' ∧ mdf [66] v v') = Q
  have hQ : ∀ u, okv u → mdf [66] v u → Q (some (.int (-1))) u := by rw [← hQe]; exact fun u h1 h2  => ⟨rfl, h1, h2⟩
  clear hQe
  have hm : mdf [66] v v := mdf.rf
  show ST G mi_Mo_answer 0 [(0, .ref 373), (1, .int x)] [] v 0 0 Q
  refine ST.lift (fun _ _ k => T_aload_n (v := .ref 373) d_Mo_answer_0 rfl (Or.inr ⟨_, rfl⟩) k) ?_
  refine ST.lift (fun _ _ k => T_iconst (v := nI 0) d_Mo_answer_1 (by decide) k) ?_
  refine S_putfield (v' := va_up v 66 (nI 0)) d_Mo_answer_2 (fp_Mo_316 _) (w373 _) (Nat.le_of_ble_eq_true rfl) ⟨rfl, rfl⟩ (u373_0 _ _) ?_
  have hv2 := hv.off (j := 66) (x := (nI 0)) (by decide)
  have hm3 := hm.go (mdf.up (v := v) (j := 66) (x := (nI 0))) (by intro i hi; simp only [List.mem_cons, List.not_mem_nil, or_false] at hi ⊢ <;> omega)
  have e_u1 : (va_up v 66 (nI 0)) 66 = (nI 0) := by simp [va_up]
  generalize va_up v 66 (nI 0) = u1 at hv2 hm3 e_u1 ⊢
  refine ST.lift (fun _ _ k => T_iload_n d_Mo_answer_5 rfl k) ?_
  refine S_static (as := [.int x]) (rest := []) d_Mo_answer_6 rfl (jw_Mo_isSession.jo (by decide)) lm_Mo_545 jt_Mo_isSession rfl (Nat.le_of_ble_eq_true rfl) (by decide) (by decide) (c_Mo_isSession_big G u1 x h0_s hx_s) (fun r v' hq => ?_)
  rw [hq.1, hq.2]
  clear hq r v'
  show ST G mi_Mo_answer 9 [(0, .ref 373), (1, .int x)] [.int (nI 0)] u1 0 0 _
  refine S_if_neN d_Mo_answer_9 rfl (by omega) (fun c => by first | exact absurd c (by omega) | exact c.elim | exact absurd c (by decide) | exact absurd (by assumption) c | exact absurd c (by assumption)) (fun _ => ?_)
  refine ST.lift (fun _ _ k => T_iconst (v := -1) d_Mo_answer_12 (by decide) k) ?_
  exact S_ret d_Mo_answer_13 rfl rfl (by decide) (by decide) (hQ _ hv2 hm3)
set_option maxRecDepth 100000 in
set_option maxHeartbeats 4000000 in
theorem c_Mo_finish_sbig (G : GX) (v : Nat → Int32) (x : Int32) (h0_s : ¬ x < 0) (hx_s : nI 4 ≤ x) (hv : okv v) : CS G mi_Mo_finish [.ref 373, .int x] v (fun r v' => r = some (.int (-1)) ∧ okv v' ∧ mdf [66] v v') := by
  refine CS.of (by decide) (Nat.le_of_ble_eq_true rfl) ?_
  generalize hQe : (fun (r : Option Value) (v' : Nat → Int32) => r = some (.int (-1)) ∧ okv v' ∧ mdf [66] v v') = Q
  have hQ : ∀ u, okv u → mdf [66] v u → Q (some (.int (-1))) u := by rw [← hQe]; exact fun u h1 h2  => ⟨rfl, h1, h2⟩
  clear hQe
  have hm : mdf [66] v v := mdf.rf
  show ST G mi_Mo_finish 0 [(0, .ref 373), (1, .int x)] [] v 0 0 Q
  refine ST.lift (fun _ _ k => T_aload_n (v := .ref 373) d_Mo_finish_0 rfl (Or.inr ⟨_, rfl⟩) k) ?_
  refine ST.lift (fun _ _ k => T_iconst (v := nI 0) d_Mo_finish_1 (by decide) k) ?_
  refine S_putfield (v' := va_up v 66 (nI 0)) d_Mo_finish_2 (fp_Mo_316 _) (w373 _) (Nat.le_of_ble_eq_true rfl) ⟨rfl, rfl⟩ (u373_0 _ _) ?_
  have hv2 := hv.off (j := 66) (x := (nI 0)) (by decide)
  have hm3 := hm.go (mdf.up (v := v) (j := 66) (x := (nI 0))) (by intro i hi; simp only [List.mem_cons, List.not_mem_nil, or_false] at hi ⊢ <;> omega)
  have e_u1 : (va_up v 66 (nI 0)) 66 = (nI 0) := by simp [va_up]
  generalize va_up v 66 (nI 0) = u1 at hv2 hm3 e_u1 ⊢
  refine ST.lift (fun _ _ k => T_iload_n d_Mo_finish_5 rfl k) ?_
  refine S_static (as := [.int x]) (rest := []) d_Mo_finish_6 rfl (jw_Mo_isSession.jo (by decide)) lm_Mo_545 jt_Mo_isSession rfl (Nat.le_of_ble_eq_true rfl) (by decide) (by decide) (c_Mo_isSession_big G u1 x h0_s hx_s) (fun r v' hq => ?_)
  rw [hq.1, hq.2]
  clear hq r v'
  show ST G mi_Mo_finish 9 [(0, .ref 373), (1, .int x)] [.int (nI 0)] u1 0 0 _
  refine S_if_neN d_Mo_finish_9 rfl (by omega) (fun c => by first | exact absurd c (by omega) | exact c.elim | exact absurd c (by decide) | exact absurd (by assumption) c | exact absurd c (by assumption)) (fun _ => ?_)
  refine ST.lift (fun _ _ k => T_iconst (v := -1) d_Mo_finish_12 (by decide) k) ?_
  exact S_ret d_Mo_finish_13 rfl rfl (by decide) (by decide) (hQ _ hv2 hm3)
set_option maxRecDepth 100000 in
set_option maxHeartbeats 4000000 in
theorem c_Mo_accept_sbig (G : GX) (v : Nat → Int32) (x : Int32) (h0_s : ¬ x < 0) (hx_s : nI 4 ≤ x) (hv : okv v) : CS G mi_Mo_accept [.ref 373, .int x] v (fun r v' => r = some (.int (-1)) ∧ okv v' ∧ mdf [66] v v') := by
  refine CS.of (by decide) (Nat.le_of_ble_eq_true rfl) ?_
  generalize hQe : (fun (r : Option Value) (v' : Nat → Int32) => r = some (.int (-1)) ∧ okv v' ∧ mdf [66] v v') = Q
  have hQ : ∀ u, okv u → mdf [66] v u → Q (some (.int (-1))) u := by rw [← hQe]; exact fun u h1 h2  => ⟨rfl, h1, h2⟩
  clear hQe
  have hm : mdf [66] v v := mdf.rf
  show ST G mi_Mo_accept 0 [(0, .ref 373), (1, .int x)] [] v 0 0 Q
  refine ST.lift (fun _ _ k => T_aload_n (v := .ref 373) d_Mo_accept_0 rfl (Or.inr ⟨_, rfl⟩) k) ?_
  refine ST.lift (fun _ _ k => T_iconst (v := nI 0) d_Mo_accept_1 (by decide) k) ?_
  refine S_putfield (v' := va_up v 66 (nI 0)) d_Mo_accept_2 (fp_Mo_316 _) (w373 _) (Nat.le_of_ble_eq_true rfl) ⟨rfl, rfl⟩ (u373_0 _ _) ?_
  have hv2 := hv.off (j := 66) (x := (nI 0)) (by decide)
  have hm3 := hm.go (mdf.up (v := v) (j := 66) (x := (nI 0))) (by intro i hi; simp only [List.mem_cons, List.not_mem_nil, or_false] at hi ⊢ <;> omega)
  have e_u1 : (va_up v 66 (nI 0)) 66 = (nI 0) := by simp [va_up]
  generalize va_up v 66 (nI 0) = u1 at hv2 hm3 e_u1 ⊢
  refine ST.lift (fun _ _ k => T_iload_n d_Mo_accept_5 rfl k) ?_
  refine S_static (as := [.int x]) (rest := []) d_Mo_accept_6 rfl (jw_Mo_isSession.jo (by decide)) lm_Mo_545 jt_Mo_isSession rfl (Nat.le_of_ble_eq_true rfl) (by decide) (by decide) (c_Mo_isSession_big G u1 x h0_s hx_s) (fun r v' hq => ?_)
  rw [hq.1, hq.2]
  clear hq r v'
  show ST G mi_Mo_accept 9 [(0, .ref 373), (1, .int x)] [.int (nI 0)] u1 0 0 _
  refine S_if_neN d_Mo_accept_9 rfl (by omega) (fun c => by first | exact absurd c (by omega) | exact c.elim | exact absurd c (by decide) | exact absurd (by assumption) c | exact absurd c (by assumption)) (fun _ => ?_)
  refine ST.lift (fun _ _ k => T_iconst (v := -1) d_Mo_accept_12 (by decide) k) ?_
  exact S_ret d_Mo_accept_13 rfl rfl (by decide) (by decide) (hQ _ hv2 hm3)

set_option maxRecDepth 100000 in
set_option maxHeartbeats 4000000 in
theorem c_Mo_mac (G : GX) (v : Nat → Int32) (key mk : Nat) (w_key : K0 ≤ key) (a_key : aI key mk) (l_key : mk ≤ 4000) (kpos : Nat) (b_kpos : kpos + 64 ≤ mk) (s : Nat) (es : v 67 = nI s) (hs : s ≤ 1900) (hv : okv v) : CS G mi_Mo_mac [.ref 373, .ref key, .int (nI kpos), .int (nI 64)] v (fun r v' => r = none ∧ okv v' ∧ mdf [67, 68] v v' ∧ v' 67 = nI 0) := by
  refine CS.of (by decide) (Nat.le_of_ble_eq_true rfl) ?_
  generalize hQe : (fun (r : Option Value) (v' : Nat → Int32) => r = none ∧ okv v' ∧ mdf [67, 68] v v' ∧ v' 67 = nI 0) = Q
  have hQ : ∀ (u : Nat → Int32) , okv u → mdf [67, 68] v u → u 67 = nI 0 → Q none u := by rw [← hQe]; exact fun u h1 h2 h3 => ⟨rfl, h1, h2, h3⟩
  clear hQe
  have hm : mdf [67, 68] v v := mdf.rf
  show ST G mi_Mo_mac 0 [(0, .ref 373), (1, .ref key), (2, .int (nI kpos)), (3, .int (nI 64))] [] v 0 0 Q
  refine ST.lift (fun _ _ k => T_aload_n (v := .ref 373) d_Mo_mac_0 rfl (Or.inr ⟨_, rfl⟩) k) ?_
  refine ST.lift (fun _ _ k => T_aload_n (v := .ref 373) d_Mo_mac_1 rfl (Or.inr ⟨_, rfl⟩) k) ?_
  refine S_getfield d_Mo_mac_2 fg_Mo_7 (w373 _) rfl ?_
  refine S_topi (y := nI s) (es) ?_
  refine S_putfield (v' := va_up v 68 (nI s)) d_Mo_mac_5 (fp_Mo_70 _) (w373 _) (Nat.le_of_ble_eq_true rfl) ⟨rfl, rfl⟩ (u373_13 _ _) ?_
  have hv2 := hv.up (j := 68) (c := 2000) (k := s) (by decide) (by omega)
  have hm3 := hm.go (mdf.up (v := v) (j := 68) (x := (nI s))) (by intro i hi; simp only [List.mem_cons, List.not_mem_nil, or_false] at hi ⊢ <;> omega)
  have e_u1 : (va_up v 68 (nI s)) 68 = (nI s) := by simp [va_up]
  have e4 : (va_up v 68 (nI s)) 67 = nI s := by simp only [va_up]; exact es
  generalize va_up v 68 (nI s) = u1 at hv2 hm3 e_u1 e4 ⊢
  refine ST.lift (fun _ _ k => T_iconst (v := nI 0) d_Mo_mac_8 (by decide) k) ?_
  refine ST.lift (fun _ _ k => T_istore (L' := [(4, .int (nI 0)), (0, .ref 373), (1, .ref key), (2, .int (nI kpos)), (3, .int (nI 64))]) d_Mo_mac_9 (by decide) rfl k) ?_
  have lp8 : ∀ (n6 k5 : Nat), s - k5 = n6 → 0 ≤ k5 ∧ k5 ≤ 0 + s → ST G mi_Mo_mac 11 [(4, .int (nI k5)), (0, .ref 373), (1, .ref key), (2, .int (nI kpos)), (3, .int (nI 64))] [] u1 0 0 Q := by
    intro n6
    induction n6 using Nat.strongRecOn with
    | _ n6 ih7 =>
      intro k5 h9 h10
      refine ST.lift (fun _ _ k => T_iload d_Mo_mac_11 rfl k) ?_
      refine ST.lift (fun _ _ k => T_aload_n (v := .ref 373) d_Mo_mac_13 rfl (Or.inr ⟨_, rfl⟩) k) ?_
      refine S_getfield d_Mo_mac_14 fg_Mo_7 (w373 _) rfl ?_
      refine S_topi (y := nI s) (e4) ?_
      refine S_icmp_geN d_Mo_mac_17 rfl (by omega) (by omega) (fun c11 => ?_) (fun c11 => ?_)
      · refine ST.lift (fun _ _ k => T_aload_n (v := .ref 373) d_Mo_mac_40 rfl (Or.inr ⟨_, rfl⟩) k) ?_
        refine ST.lift (fun _ _ k => T_iconst (v := nI 0) d_Mo_mac_41 (by decide) k) ?_
        refine S_putfield (v' := va_up u1 67 (nI 0)) d_Mo_mac_42 (fp_Mo_7 _) (w373 _) (Nat.le_of_ble_eq_true rfl) ⟨rfl, rfl⟩ (u373_2 _ _) ?_
        have hv14 := hv2.up (j := 67) (c := 4000) (k := 0) (by decide) (by omega)
        have hm15 := hm3.go (mdf.up (v := u1) (j := 67) (x := (nI 0))) (by intro i hi; simp only [List.mem_cons, List.not_mem_nil, or_false] at hi ⊢ <;> omega)
        have e_u13 : (va_up u1 67 (nI 0)) 67 = (nI 0) := by simp [va_up]
        have e16 : (va_up u1 67 (nI 0)) 68 = nI s := by simp only [va_up]; exact e_u1
        generalize va_up u1 67 (nI 0) = u13 at hv14 hm15 e_u13 e16 ⊢
        refine ST.lift (fun _ _ k => T_iconst (v := nI 0) d_Mo_mac_45 (by decide) k) ?_
        refine ST.lift (fun _ _ k => T_istore (L' := [(4, .int (nI 0)), (0, .ref 373), (1, .ref key), (2, .int (nI kpos)), (3, .int (nI 64))]) d_Mo_mac_46 (by decide) rfl k) ?_
        have lp21 : ∀ (n19 k17 : Nat) (u18 : Nat → Int32) (hv_u18 : okv u18) (hm_u18 : mdf [67, 68] v u18) (es_u18 : u18 67 = nI (0 + k17)), 128 - k17 = n19 → 0 ≤ k17 ∧ k17 ≤ 0 + 128 → ST G mi_Mo_mac 48 [(4, .int (nI k17)), (0, .ref 373), (1, .ref key), (2, .int (nI kpos)), (3, .int (nI 64))] [] u18 0 0 Q := by
          intro n19
          induction n19 using Nat.strongRecOn with
          | _ n19 ih20 =>
            intro k17 u18 hv_u18 hm_u18 es_u18 h22 h23
            refine ST.lift (fun _ _ k => T_iload d_Mo_mac_48 rfl k) ?_
            refine ST.lift (fun _ _ k => T_sipush (v := nI 128) d_Mo_mac_50 (by decide) k) ?_
            refine S_icmp_geN d_Mo_mac_53 rfl (by omega) (by omega) (fun c24 => ?_) (fun c24 => ?_)
            · refine ST.lift (fun _ _ k => T_aload_n (v := .ref 373) d_Mo_mac_85 rfl (Or.inr ⟨_, rfl⟩) k) ?_
              refine ST.lift (fun _ _ k => T_aload_n (v := .ref 373) d_Mo_mac_86 rfl (Or.inr ⟨_, rfl⟩) k) ?_
              refine S_getfield d_Mo_mac_87 fg_Mo_73 (w373 _) rfl ?_
              refine ST.lift (fun _ _ k => T_iconst (v := nI 0) d_Mo_mac_90 (by decide) k) ?_
              refine ST.lift (fun _ _ k => T_aload_n (v := .ref 373) d_Mo_mac_91 rfl (Or.inr ⟨_, rfl⟩) k) ?_
              obtain ⟨k34, hk34, ek34⟩ := hv_u18.get (j := 68) (c := 2000) (by decide)
              refine S_getfield d_Mo_mac_92 fg_Mo_70 (w373 _) rfl ?_
              refine S_topi (y := nI k34) (ek34) ?_
              refine S_virtual (as := [.ref 384, .int (nI 0), .int (nI k34)]) (rest := []) (b := 373) d_Mo_mac_95 rfl (jw_Mo_bytes.jo (by decide)) lm_Mo_76 ji_Mo_bytes js_Mo_bytes (w373 _) rfl rfl rfl (Nat.le_of_ble_eq_true rfl) (by decide) (by decide) (c_Mo_bytes G u18 384 2000 (by decide) a384 (by omega) 0 (by omega) k34 (by omega) (0 + k17) es_u18 (by omega) hv_u18) (fun r u35 hq => ?_)
              obtain ⟨hr, hv36, hm37, s38, hb_s38, es_u35⟩ := hq
              rw [hr]
              clear hr r
              have hm39 := hm_u18.go hm37 (by intro i hi; simp only [List.mem_cons, List.not_mem_nil, or_false] at hi ⊢ <;> omega)
              have e40 : u35 68 = nI k34 := (hm37 68 (by decide)).trans ek34
              show ST G mi_Mo_mac 98 [(4, .int (nI k17)), (0, .ref 373), (1, .ref key), (2, .int (nI kpos)), (3, .int (nI 64))] [] u35 0 0 _
              refine ST.lift (fun _ _ k => T_aload_n (v := .ref 373) d_Mo_mac_98 rfl (Or.inr ⟨_, rfl⟩) k) ?_
              refine S_virtual (as := []) (rest := []) (b := 373) d_Mo_mac_99 rfl (jw_Mo_hash0.jo (by decide)) lm_Mo_80 ji_Mo_hash0 js_Mo_hash0 (w373 _) rfl rfl rfl (Nat.le_of_ble_eq_true rfl) (by decide) (by decide) (c_Mo_hash0 G u35 s38 es_u35 (by omega) hv36) (fun r u41 hq => ?_)
              obtain ⟨hr, hv42, hm43, es_u41⟩ := hq
              rw [hr]
              clear hr r
              have hm45 := hm39.go hm43 (by intro i hi; simp only [List.mem_cons, List.not_mem_nil, or_false] at hi ⊢ <;> omega)
              have e46 : u41 68 = nI k34 := (hm43 68 (by decide)).trans e40
              show ST G mi_Mo_mac 102 [(4, .int (nI k17)), (0, .ref 373), (1, .ref key), (2, .int (nI kpos)), (3, .int (nI 64))] [] u41 0 0 _
              refine ST.lift (fun _ _ k => T_iconst (v := nI 0) d_Mo_mac_102 (by decide) k) ?_
              refine ST.lift (fun _ _ k => T_istore (L' := [(4, .int (nI 0)), (0, .ref 373), (1, .ref key), (2, .int (nI kpos)), (3, .int (nI 64))]) d_Mo_mac_103 (by decide) rfl k) ?_
              have lp50 : ∀ (n48 k47 : Nat), 64 - k47 = n48 → 0 ≤ k47 ∧ k47 ≤ 0 + 64 → ST G mi_Mo_mac 105 [(4, .int (nI k47)), (0, .ref 373), (1, .ref key), (2, .int (nI kpos)), (3, .int (nI 64))] [] u41 0 0 Q := by
                intro n48
                induction n48 using Nat.strongRecOn with
                | _ n48 ih49 =>
                  intro k47 h51 h52
                  refine ST.lift (fun _ _ k => T_iload d_Mo_mac_105 rfl k) ?_
                  refine ST.lift (fun _ _ k => T_bipush (v := nI 64) d_Mo_mac_107 (by decide) k) ?_
                  refine S_icmp_geN d_Mo_mac_109 rfl (by omega) (by omega) (fun c53 => ?_) (fun c53 => ?_)
                  · refine ST.lift (fun _ _ k => T_iconst (v := nI 0) d_Mo_mac_132 (by decide) k) ?_
                    refine ST.lift (fun _ _ k => T_istore (L' := [(4, .int (nI 0)), (0, .ref 373), (1, .ref key), (2, .int (nI kpos)), (3, .int (nI 64))]) d_Mo_mac_133 (by decide) rfl k) ?_
                    have lp59 : ∀ (n57 k55 : Nat) (u56 : Nat → Int32) (hv_u56 : okv u56) (hm_u56 : mdf [67, 68] v u56) (es_u56 : u56 67 = nI (0 + k55)), 128 - k55 = n57 → 0 ≤ k55 ∧ k55 ≤ 0 + 128 → ST G mi_Mo_mac 135 [(4, .int (nI k55)), (0, .ref 373), (1, .ref key), (2, .int (nI kpos)), (3, .int (nI 64))] [] u56 0 0 Q := by
                      intro n57
                      induction n57 using Nat.strongRecOn with
                      | _ n57 ih58 =>
                        intro k55 u56 hv_u56 hm_u56 es_u56 h60 h61
                        refine ST.lift (fun _ _ k => T_iload d_Mo_mac_135 rfl k) ?_
                        refine ST.lift (fun _ _ k => T_sipush (v := nI 128) d_Mo_mac_137 (by decide) k) ?_
                        refine S_icmp_geN d_Mo_mac_140 rfl (by omega) (by omega) (fun c62 => ?_) (fun c62 => ?_)
                        · refine ST.lift (fun _ _ k => T_aload_n (v := .ref 373) d_Mo_mac_172 rfl (Or.inr ⟨_, rfl⟩) k) ?_
                          refine ST.lift (fun _ _ k => T_aload_n (v := .ref 373) d_Mo_mac_173 rfl (Or.inr ⟨_, rfl⟩) k) ?_
                          refine S_getfield d_Mo_mac_174 fg_Mo_84 (w373 _) rfl ?_
                          refine ST.lift (fun _ _ k => T_iconst (v := nI 0) d_Mo_mac_177 (by decide) k) ?_
                          refine ST.lift (fun _ _ k => T_bipush (v := nI 64) d_Mo_mac_178 (by decide) k) ?_
                          refine S_virtual (as := [.ref 385, .int (nI 0), .int (nI 64)]) (rest := []) (b := 373) d_Mo_mac_180 rfl (jw_Mo_bytes.jo (by decide)) lm_Mo_76 ji_Mo_bytes js_Mo_bytes (w373 _) rfl rfl rfl (Nat.le_of_ble_eq_true rfl) (by decide) (by decide) (c_Mo_bytes G u56 385 64 (by decide) a385 (by omega) 0 (by omega) 64 (by omega) (0 + k55) es_u56 (by omega) hv_u56) (fun r u72 hq => ?_)
                          obtain ⟨hr, hv73, hm74, s75, hb_s75, es_u72⟩ := hq
                          rw [hr]
                          clear hr r
                          have hm76 := hm_u56.go hm74 (by intro i hi; simp only [List.mem_cons, List.not_mem_nil, or_false] at hi ⊢ <;> omega)
                          show ST G mi_Mo_mac 183 [(4, .int (nI k55)), (0, .ref 373), (1, .ref key), (2, .int (nI kpos)), (3, .int (nI 64))] [] u72 0 0 _
                          refine ST.lift (fun _ _ k => T_aload_n (v := .ref 373) d_Mo_mac_183 rfl (Or.inr ⟨_, rfl⟩) k) ?_
                          refine S_virtual (as := []) (rest := []) (b := 373) d_Mo_mac_184 rfl (jw_Mo_hash0.jo (by decide)) lm_Mo_80 ji_Mo_hash0 js_Mo_hash0 (w373 _) rfl rfl rfl (Nat.le_of_ble_eq_true rfl) (by decide) (by decide) (c_Mo_hash0 G u72 s75 es_u72 (by omega) hv73) (fun r u77 hq => ?_)
                          obtain ⟨hr, hv78, hm79, es_u77⟩ := hq
                          rw [hr]
                          clear hr r
                          have hm81 := hm76.go hm79 (by intro i hi; simp only [List.mem_cons, List.not_mem_nil, or_false] at hi ⊢ <;> omega)
                          show ST G mi_Mo_mac 187 [(4, .int (nI k55)), (0, .ref 373), (1, .ref key), (2, .int (nI kpos)), (3, .int (nI 64))] [] u77 0 0 _
                          exact S_vret d_Mo_mac_187 rfl (by decide) (by decide) (hQ _ hv78 hm81 (es_u77.trans (congrArg nI (by omega))))
                        · refine ST.lift (fun _ _ k => T_aload_n (v := .ref 373) d_Mo_mac_143 rfl (Or.inr ⟨_, rfl⟩) k) ?_
                          refine ST.lift (fun _ _ k => T_iload d_Mo_mac_144 rfl k) ?_
                          refine ST.lift (fun _ _ k => T_iload_n d_Mo_mac_146 rfl k) ?_
                          have J160_85 : ∀ (z84 : Int32), ST G mi_Mo_mac 160 [(4, .int (nI k55)), (0, .ref 373), (1, .ref key), (2, .int (nI kpos)), (3, .int (nI 64))] [.int z84, .ref 373] u56 0 0 Q := by
                            intro z84
                            refine ST.lift (fun _ _ k => T_bipush (v := nI 92) d_Mo_mac_160 (by decide) k) ?_
                            refine ST.lift (fun _ _ k => T_ixor d_Mo_mac_162 k) (S_anyi fun z86 => ?_)
                            refine S_virtual (as := [.int z86]) (rest := []) (b := 373) d_Mo_mac_163 rfl (jw_Mo_one.jo (by decide)) lm_Mo_11 ji_Mo_one js_Mo_one (w373 _) rfl rfl rfl (Nat.le_of_ble_eq_true rfl) (by decide) (by decide) (c_Mo_one G u56 z86 (0 + k55) es_u56 (by omega) hv_u56) (fun r v' hq => ?_)
                            rw [hq.1, hq.2]
                            clear hq r v'
                            show ST G mi_Mo_mac 166 [(4, .int (nI k55)), (0, .ref 373), (1, .ref key), (2, .int (nI kpos)), (3, .int (nI 64))] [] (va_up u56 67 (nI ((0 + k55) + 1))) 0 0 _
                            have hv88 := hv_u56.up (j := 67) (c := 4000) (k := ((0 + k55) + 1)) (by decide) (by omega)
                            have hm89 := hm_u56.go (mdf.up (v := u56) (j := 67) (x := (nI ((0 + k55) + 1)))) (by intro i hi; simp only [List.mem_cons, List.not_mem_nil, or_false] at hi ⊢ <;> omega)
                            have e_u87 : (va_up u56 67 (nI ((0 + k55) + 1))) 67 = (nI ((0 + k55) + 1)) := by simp [va_up]
                            generalize va_up u56 67 (nI ((0 + k55) + 1)) = u87 at hv88 hm89 e_u87 ⊢
                            refine S_iincN (a := k55) (b := 1) (L' := [(4, .int (nI (k55 + 1))), (0, .ref 373), (1, .ref key), (2, .int (nI kpos)), (3, .int (nI 64))]) d_Mo_mac_166 (by decide) rfl rfl rfl ?_
                            refine ST.lift (fun _ _ k => T_goto (tgt := 135) d_Mo_mac_169 rfl k) ?_
                            exact ih58 (128 - (k55 + 1)) (by omega) (k55 + 1)  u87 hv88 hm89 (e_u87.trans (congrArg nI (by omega))) rfl (by omega)
                          refine S_icmp_geN d_Mo_mac_147 rfl (by omega) (by omega) (fun c82 => ?_) (fun c82 => ?_)
                          · refine ST.lift (fun _ _ k => T_iconst (v := nI 0) d_Mo_mac_159 (by decide) k) ?_
                            exact J160_85 (nI 0)
                          · refine ST.lift (fun _ _ k => T_aload_n (v := .ref key) d_Mo_mac_150 rfl (Or.inr ⟨_, rfl⟩) k) ?_
                            refine ST.lift (fun _ _ k => T_iload_n d_Mo_mac_151 rfl k) ?_
                            refine ST.lift (fun _ _ k => T_iload d_Mo_mac_152 rfl k) ?_
                            refine S_iaddN d_Mo_mac_154 ?_
                            refine S_iaload d_Mo_mac_155 a_key (vp_in_nI (by omega) (by omega)) (fun z90 => ?_)
                            refine ST.lift (fun _ _ k => T_goto (tgt := 160) d_Mo_mac_156 rfl k) ?_
                            exact J160_85 z90
                    exact lp59 _ 0  u41 hv42 hm45 (es_u41.trans (congrArg nI (by omega))) rfl (by omega)
                  · refine ST.lift (fun _ _ k => T_aload_n (v := .ref 373) d_Mo_mac_112 rfl (Or.inr ⟨_, rfl⟩) k) ?_
                    refine S_getfield d_Mo_mac_113 fg_Mo_84 (w373 _) rfl ?_
                    refine ST.lift (fun _ _ k => T_iload d_Mo_mac_116 rfl k) ?_
                    refine ST.lift (fun _ _ k => T_aload_n (v := .ref 373) d_Mo_mac_118 rfl (Or.inr ⟨_, rfl⟩) k) ?_
                    refine S_getfield d_Mo_mac_119 fg_Mo_55 (w373 _) rfl ?_
                    refine ST.lift (fun _ _ k => T_iload d_Mo_mac_122 rfl k) ?_
                    refine S_iaload d_Mo_mac_124 a383 (vp_in_nI (by omega) (by omega)) (fun z91 => ?_)
                    refine S_iastore d_Mo_mac_125 (by decide) a385 (vp_in_nI (by omega) (by omega)) ?_
                    refine S_iincN (a := k47) (b := 1) (L' := [(4, .int (nI (k47 + 1))), (0, .ref 373), (1, .ref key), (2, .int (nI kpos)), (3, .int (nI 64))]) d_Mo_mac_126 (by decide) rfl rfl rfl ?_
                    refine ST.lift (fun _ _ k => T_goto (tgt := 105) d_Mo_mac_129 rfl k) ?_
                    exact ih49 (64 - (k47 + 1)) (by omega) (k47 + 1)  rfl (by omega)
              exact lp50 _ 0  rfl (by omega)
            · refine ST.lift (fun _ _ k => T_aload_n (v := .ref 373) d_Mo_mac_56 rfl (Or.inr ⟨_, rfl⟩) k) ?_
              refine ST.lift (fun _ _ k => T_iload d_Mo_mac_57 rfl k) ?_
              refine ST.lift (fun _ _ k => T_iload_n d_Mo_mac_59 rfl k) ?_
              have J73_95 : ∀ (z94 : Int32), ST G mi_Mo_mac 73 [(4, .int (nI k17)), (0, .ref 373), (1, .ref key), (2, .int (nI kpos)), (3, .int (nI 64))] [.int z94, .ref 373] u18 0 0 Q := by
                intro z94
                refine ST.lift (fun _ _ k => T_bipush (v := nI 54) d_Mo_mac_73 (by decide) k) ?_
                refine ST.lift (fun _ _ k => T_ixor d_Mo_mac_75 k) (S_anyi fun z96 => ?_)
                refine S_virtual (as := [.int z96]) (rest := []) (b := 373) d_Mo_mac_76 rfl (jw_Mo_one.jo (by decide)) lm_Mo_11 ji_Mo_one js_Mo_one (w373 _) rfl rfl rfl (Nat.le_of_ble_eq_true rfl) (by decide) (by decide) (c_Mo_one G u18 z96 (0 + k17) es_u18 (by omega) hv_u18) (fun r v' hq => ?_)
                rw [hq.1, hq.2]
                clear hq r v'
                show ST G mi_Mo_mac 79 [(4, .int (nI k17)), (0, .ref 373), (1, .ref key), (2, .int (nI kpos)), (3, .int (nI 64))] [] (va_up u18 67 (nI ((0 + k17) + 1))) 0 0 _
                have hv98 := hv_u18.up (j := 67) (c := 4000) (k := ((0 + k17) + 1)) (by decide) (by omega)
                have hm99 := hm_u18.go (mdf.up (v := u18) (j := 67) (x := (nI ((0 + k17) + 1)))) (by intro i hi; simp only [List.mem_cons, List.not_mem_nil, or_false] at hi ⊢ <;> omega)
                have e_u97 : (va_up u18 67 (nI ((0 + k17) + 1))) 67 = (nI ((0 + k17) + 1)) := by simp [va_up]
                generalize va_up u18 67 (nI ((0 + k17) + 1)) = u97 at hv98 hm99 e_u97 ⊢
                refine S_iincN (a := k17) (b := 1) (L' := [(4, .int (nI (k17 + 1))), (0, .ref 373), (1, .ref key), (2, .int (nI kpos)), (3, .int (nI 64))]) d_Mo_mac_79 (by decide) rfl rfl rfl ?_
                refine ST.lift (fun _ _ k => T_goto (tgt := 48) d_Mo_mac_82 rfl k) ?_
                exact ih20 (128 - (k17 + 1)) (by omega) (k17 + 1)  u97 hv98 hm99 (e_u97.trans (congrArg nI (by omega))) rfl (by omega)
              refine S_icmp_geN d_Mo_mac_60 rfl (by omega) (by omega) (fun c92 => ?_) (fun c92 => ?_)
              · refine ST.lift (fun _ _ k => T_iconst (v := nI 0) d_Mo_mac_72 (by decide) k) ?_
                exact J73_95 (nI 0)
              · refine ST.lift (fun _ _ k => T_aload_n (v := .ref key) d_Mo_mac_63 rfl (Or.inr ⟨_, rfl⟩) k) ?_
                refine ST.lift (fun _ _ k => T_iload_n d_Mo_mac_64 rfl k) ?_
                refine ST.lift (fun _ _ k => T_iload d_Mo_mac_65 rfl k) ?_
                refine S_iaddN d_Mo_mac_67 ?_
                refine S_iaload d_Mo_mac_68 a_key (vp_in_nI (by omega) (by omega)) (fun z100 => ?_)
                refine ST.lift (fun _ _ k => T_goto (tgt := 73) d_Mo_mac_69 rfl k) ?_
                exact J73_95 z100
        exact lp21 _ 0  u13 hv14 hm15 (e_u13.trans (congrArg nI (by omega))) rfl (by omega)
      · refine ST.lift (fun _ _ k => T_aload_n (v := .ref 373) d_Mo_mac_20 rfl (Or.inr ⟨_, rfl⟩) k) ?_
        refine S_getfield d_Mo_mac_21 fg_Mo_73 (w373 _) rfl ?_
        refine ST.lift (fun _ _ k => T_iload d_Mo_mac_24 rfl k) ?_
        refine ST.lift (fun _ _ k => T_aload_n (v := .ref 373) d_Mo_mac_26 rfl (Or.inr ⟨_, rfl⟩) k) ?_
        refine S_getfield d_Mo_mac_27 fg_Mo_1 (w373 _) rfl ?_
        refine ST.lift (fun _ _ k => T_iload d_Mo_mac_30 rfl k) ?_
        refine S_iaload d_Mo_mac_32 a374 (vp_in_nI (by omega) (by omega)) (fun z101 => ?_)
        refine S_iastore d_Mo_mac_33 (by decide) a384 (vp_in_nI (by omega) (by omega)) ?_
        refine S_iincN (a := k5) (b := 1) (L' := [(4, .int (nI (k5 + 1))), (0, .ref 373), (1, .ref key), (2, .int (nI kpos)), (3, .int (nI 64))]) d_Mo_mac_34 (by decide) rfl rfl rfl ?_
        refine ST.lift (fun _ _ k => T_goto (tgt := 11) d_Mo_mac_37 rfl k) ?_
        exact ih7 (s - (k5 + 1)) (by omega) (k5 + 1)  rfl (by omega)
  exact lp8 _ 0  rfl (by omega)
set_option maxRecDepth 100000 in
set_option maxHeartbeats 4000000 in
theorem c_Mo_extract (G : GX) (v : Nat → Int32) (s : Nat) (es : v 67 = nI s) (hs : s ≤ 1900) (hv : okv v) : CS G mi_Mo_extract [.ref 373] v (fun r v' => r = none ∧ okv v' ∧ mdf [67, 68] v v' ∧ v' 67 = nI 0) := by
  refine CS.of (by decide) (Nat.le_of_ble_eq_true rfl) ?_
  generalize hQe : (fun (r : Option Value) (v' : Nat → Int32) => r = none ∧ okv v' ∧ mdf [67, 68] v v' ∧ v' 67 = nI 0) = Q
  have hQ : ∀ (u : Nat → Int32) , okv u → mdf [67, 68] v u → u 67 = nI 0 → Q none u := by rw [← hQe]; exact fun u h1 h2 h3 => ⟨rfl, h1, h2, h3⟩
  clear hQe
  have hm : mdf [67, 68] v v := mdf.rf
  show ST G mi_Mo_extract 0 [(0, .ref 373)] [] v 0 0 Q
  refine ST.lift (fun _ _ k => T_aload_n (v := .ref 373) d_Mo_extract_0 rfl (Or.inr ⟨_, rfl⟩) k) ?_
  refine ST.lift (fun _ _ k => T_aload_n (v := .ref 373) d_Mo_extract_1 rfl (Or.inr ⟨_, rfl⟩) k) ?_
  refine S_getfield d_Mo_extract_2 fg_Mo_87 (w373 _) rfl ?_
  refine ST.lift (fun _ _ k => T_iconst (v := nI 0) d_Mo_extract_5 (by decide) k) ?_
  refine ST.lift (fun _ _ k => T_bipush (v := nI 64) d_Mo_extract_6 (by decide) k) ?_
  refine S_virtual (as := [.ref 386, .int (nI 0), .int (nI 64)]) (rest := []) (b := 373) d_Mo_extract_8 rfl (jw_Mo_mac.jo (by decide)) lm_Mo_90 ji_Mo_mac js_Mo_mac (w373 _) rfl rfl rfl (Nat.le_of_ble_eq_true rfl) (by decide) (by decide) (c_Mo_mac G v 386 64 (by decide) a386 (by omega) 0 (by omega) s es (by omega) hv) (fun r u1 hq => ?_)
  obtain ⟨hr, hv2, hm3, es_u1⟩ := hq
  rw [hr]
  clear hr r
  have hm5 := hm.go hm3 (by intro i hi; simp only [List.mem_cons, List.not_mem_nil, or_false] at hi ⊢ <;> omega)
  show ST G mi_Mo_extract 11 [(0, .ref 373)] [] u1 0 0 _
  exact S_vret d_Mo_extract_11 rfl (by decide) (by decide) (hQ _ hv2 hm5 (es_u1.trans (congrArg nI (by omega))))
set_option maxRecDepth 100000 in
set_option maxHeartbeats 4000000 in
theorem c_Mo_expand_32 (G : GX) (v : Nat → Int32) (key mk : Nat) (w_key : K0 ≤ key) (a_key : aI key mk) (l_key : mk ≤ 4000) (kpos : Nat) (b_kpos : kpos + 64 ≤ mk) (s : Nat) (es : v 67 = nI s) (hs : s ≤ 390) (hv : okv v) : CS G mi_Mo_expand [.ref 373, .ref key, .int (nI kpos), .int (nI 32)] v (fun r v' => r = none ∧ okv v' ∧ mdf [67, 68, 69] v v' ∧ v' 67 = nI 0) := by
  refine CS.of (by decide) (Nat.le_of_ble_eq_true rfl) ?_
  generalize hQe : (fun (r : Option Value) (v' : Nat → Int32) => r = none ∧ okv v' ∧ mdf [67, 68, 69] v v' ∧ v' 67 = nI 0) = Q
  have hQ : ∀ (u : Nat → Int32) , okv u → mdf [67, 68, 69] v u → u 67 = nI 0 → Q none u := by rw [← hQe]; exact fun u h1 h2 h3 => ⟨rfl, h1, h2, h3⟩
  clear hQe
  have hm : mdf [67, 68, 69] v v := mdf.rf
  show ST G mi_Mo_expand 0 [(0, .ref 373), (1, .ref key), (2, .int (nI kpos)), (3, .int (nI 32))] [] v 0 0 Q
  refine ST.lift (fun _ _ k => T_aload_n (v := .ref 373) d_Mo_expand_0 rfl (Or.inr ⟨_, rfl⟩) k) ?_
  refine ST.lift (fun _ _ k => T_aload_n (v := .ref 373) d_Mo_expand_1 rfl (Or.inr ⟨_, rfl⟩) k) ?_
  refine S_getfield d_Mo_expand_2 fg_Mo_7 (w373 _) rfl ?_
  refine S_topi (y := nI s) (es) ?_
  refine S_putfield (v' := va_up v 69 (nI s)) d_Mo_expand_5 (fp_Mo_93 _) (w373 _) (Nat.le_of_ble_eq_true rfl) ⟨rfl, rfl⟩ (u373_17 _ _) ?_
  have hv2 := hv.up (j := 69) (c := 400) (k := s) (by decide) (by omega)
  have hm3 := hm.go (mdf.up (v := v) (j := 69) (x := (nI s))) (by intro i hi; simp only [List.mem_cons, List.not_mem_nil, or_false] at hi ⊢ <;> omega)
  have e_u1 : (va_up v 69 (nI s)) 69 = (nI s) := by simp [va_up]
  have e4 : (va_up v 69 (nI s)) 67 = nI s := by simp only [va_up]; exact es
  generalize va_up v 69 (nI s) = u1 at hv2 hm3 e_u1 e4 ⊢
  refine ST.lift (fun _ _ k => T_iconst (v := nI 0) d_Mo_expand_8 (by decide) k) ?_
  refine ST.lift (fun _ _ k => T_istore (L' := [(4, .int (nI 0)), (0, .ref 373), (1, .ref key), (2, .int (nI kpos)), (3, .int (nI 32))]) d_Mo_expand_9 (by decide) rfl k) ?_
  have lp8 : ∀ (n6 k5 : Nat), s - k5 = n6 → 0 ≤ k5 ∧ k5 ≤ 0 + s → ST G mi_Mo_expand 11 [(4, .int (nI k5)), (0, .ref 373), (1, .ref key), (2, .int (nI kpos)), (3, .int (nI 32))] [] u1 0 0 Q := by
    intro n6
    induction n6 using Nat.strongRecOn with
    | _ n6 ih7 =>
      intro k5 h9 h10
      refine ST.lift (fun _ _ k => T_iload d_Mo_expand_11 rfl k) ?_
      refine ST.lift (fun _ _ k => T_aload_n (v := .ref 373) d_Mo_expand_13 rfl (Or.inr ⟨_, rfl⟩) k) ?_
      refine S_getfield d_Mo_expand_14 fg_Mo_7 (w373 _) rfl ?_
      refine S_topi (y := nI s) (e4) ?_
      refine S_icmp_geN d_Mo_expand_17 rfl (by omega) (by omega) (fun c11 => ?_) (fun c11 => ?_)
      · refine ST.lift (fun _ _ k => T_aload_n (v := .ref 373) d_Mo_expand_40 rfl (Or.inr ⟨_, rfl⟩) k) ?_
        refine ST.lift (fun _ _ k => T_iconst (v := nI 0) d_Mo_expand_41 (by decide) k) ?_
        refine S_putfield (v' := va_up u1 67 (nI 0)) d_Mo_expand_42 (fp_Mo_7 _) (w373 _) (Nat.le_of_ble_eq_true rfl) ⟨rfl, rfl⟩ (u373_2 _ _) ?_
        have hv14 := hv2.up (j := 67) (c := 4000) (k := 0) (by decide) (by omega)
        have hm15 := hm3.go (mdf.up (v := u1) (j := 67) (x := (nI 0))) (by intro i hi; simp only [List.mem_cons, List.not_mem_nil, or_false] at hi ⊢ <;> omega)
        have e_u13 : (va_up u1 67 (nI 0)) 67 = (nI 0) := by simp [va_up]
        have e16 : (va_up u1 67 (nI 0)) 69 = nI s := by simp only [va_up]; exact e_u1
        generalize va_up u1 67 (nI 0) = u13 at hv14 hm15 e_u13 e16 ⊢
        refine ST.lift (fun _ _ k => T_iconst (v := nI 0) d_Mo_expand_45 (by decide) k) ?_
        refine ST.lift (fun _ _ k => T_istore (L' := [(4, .int (nI 0)), (0, .ref 373), (1, .ref key), (2, .int (nI kpos)), (3, .int (nI 32))]) d_Mo_expand_46 (by decide) rfl k) ?_
        refine ST.lift (fun _ _ k => T_bipush (v := nI 64) d_Mo_expand_48 (by decide) k) ?_
        refine ST.lift (fun _ _ k => T_iload d_Mo_expand_50 rfl k) ?_
        refine S_imulN d_Mo_expand_52 ?_
        refine S_topi (y := nI 0) (by decide) ?_
        refine ST.lift (fun _ _ k => T_iload_n d_Mo_expand_53 rfl k) ?_
        refine S_icmp_geN d_Mo_expand_54 rfl (by omega) (by omega) (fun c => by first | exact absurd c (by omega) | exact c.elim | exact absurd c (by decide) | exact absurd (by assumption) c | exact absurd c (by assumption)) (fun _ => ?_)
        refine ST.lift (fun _ _ k => T_iload d_Mo_expand_57 rfl k) ?_
        refine S_if_leN d_Mo_expand_59 rfl (by omega) (fun _ => ?_) (fun c => by first | exact absurd c (by omega) | exact c.elim | exact absurd c (by decide) | exact absurd (by assumption) c | exact absurd c (by assumption))
        refine ST.lift (fun _ _ k => T_aload_n (v := .ref 373) d_Mo_expand_80 rfl (Or.inr ⟨_, rfl⟩) k) ?_
        refine ST.lift (fun _ _ k => T_aload_n (v := .ref 373) d_Mo_expand_81 rfl (Or.inr ⟨_, rfl⟩) k) ?_
        refine S_getfield d_Mo_expand_82 fg_Mo_96 (w373 _) rfl ?_
        refine ST.lift (fun _ _ k => T_iconst (v := nI 0) d_Mo_expand_85 (by decide) k) ?_
        refine ST.lift (fun _ _ k => T_aload_n (v := .ref 373) d_Mo_expand_86 rfl (Or.inr ⟨_, rfl⟩) k) ?_
        refine S_getfield d_Mo_expand_87 fg_Mo_93 (w373 _) rfl ?_
        refine S_topi (y := nI s) (e16) ?_
        refine S_virtual (as := [.ref 387, .int (nI 0), .int (nI s)]) (rest := []) (b := 373) d_Mo_expand_90 rfl (jw_Mo_bytes.jo (by decide)) lm_Mo_76 ji_Mo_bytes js_Mo_bytes (w373 _) rfl rfl rfl (Nat.le_of_ble_eq_true rfl) (by decide) (by decide) (c_Mo_bytes G u13 387 400 (by decide) a387 (by omega) 0 (by omega) s (by omega) 0 e_u13 (by omega) hv14) (fun r u17 hq => ?_)
        obtain ⟨hr, hv18, hm19, s20, hb_s20, es_u17⟩ := hq
        rw [hr]
        clear hr r
        have hm21 := hm15.go hm19 (by intro i hi; simp only [List.mem_cons, List.not_mem_nil, or_false] at hi ⊢ <;> omega)
        have e22 : u17 69 = nI s := (hm19 69 (by decide)).trans e16
        show ST G mi_Mo_expand 93 [(4, .int (nI 0)), (0, .ref 373), (1, .ref key), (2, .int (nI kpos)), (3, .int (nI 32))] [] u17 0 0 _
        refine ST.lift (fun _ _ k => T_aload_n (v := .ref 373) d_Mo_expand_93 rfl (Or.inr ⟨_, rfl⟩) k) ?_
        refine ST.lift (fun _ _ k => T_iload d_Mo_expand_94 rfl k) ?_
        refine ST.lift (fun _ _ k => T_iconst (v := nI 1) d_Mo_expand_96 (by decide) k) ?_
        refine S_iaddN d_Mo_expand_97 ?_
        refine S_topi (y := nI 1) (by decide) ?_
        refine S_virtual (as := [.int (nI 1)]) (rest := []) (b := 373) d_Mo_expand_98 rfl (jw_Mo_one.jo (by decide)) lm_Mo_11 ji_Mo_one js_Mo_one (w373 _) rfl rfl rfl (Nat.le_of_ble_eq_true rfl) (by decide) (by decide) (c_Mo_one G u17 (nI 1) s20 es_u17 (by omega) hv18) (fun r v' hq => ?_)
        rw [hq.1, hq.2]
        clear hq r v'
        show ST G mi_Mo_expand 101 [(4, .int (nI 0)), (0, .ref 373), (1, .ref key), (2, .int (nI kpos)), (3, .int (nI 32))] [] (va_up u17 67 (nI (s20 + 1))) 0 0 _
        have hv24 := hv18.up (j := 67) (c := 4000) (k := (s20 + 1)) (by decide) (by omega)
        have hm25 := hm21.go (mdf.up (v := u17) (j := 67) (x := (nI (s20 + 1)))) (by intro i hi; simp only [List.mem_cons, List.not_mem_nil, or_false] at hi ⊢ <;> omega)
        have e_u23 : (va_up u17 67 (nI (s20 + 1))) 67 = (nI (s20 + 1)) := by simp [va_up]
        have e26 : (va_up u17 67 (nI (s20 + 1))) 69 = nI s := by simp only [va_up]; exact e22
        generalize va_up u17 67 (nI (s20 + 1)) = u23 at hv24 hm25 e_u23 e26 ⊢
        refine ST.lift (fun _ _ k => T_aload_n (v := .ref 373) d_Mo_expand_101 rfl (Or.inr ⟨_, rfl⟩) k) ?_
        refine ST.lift (fun _ _ k => T_aload_n (v := .ref key) d_Mo_expand_102 rfl (Or.inr ⟨_, rfl⟩) k) ?_
        refine ST.lift (fun _ _ k => T_iload_n d_Mo_expand_103 rfl k) ?_
        refine ST.lift (fun _ _ k => T_bipush (v := nI 64) d_Mo_expand_104 (by decide) k) ?_
        refine S_virtual (as := [.ref key, .int (nI kpos), .int (nI 64)]) (rest := []) (b := 373) d_Mo_expand_106 rfl (jw_Mo_mac.jo (by decide)) lm_Mo_90 ji_Mo_mac js_Mo_mac (w373 _) rfl rfl rfl (Nat.le_of_ble_eq_true rfl) (by decide) (by decide) (c_Mo_mac G u23 key mk w_key a_key (by omega) kpos (by omega) (s20 + 1) e_u23 (by omega) hv24) (fun r u27 hq => ?_)
        obtain ⟨hr, hv28, hm29, es_u27⟩ := hq
        rw [hr]
        clear hr r
        have hm31 := hm25.go hm29 (by intro i hi; simp only [List.mem_cons, List.not_mem_nil, or_false] at hi ⊢ <;> omega)
        have e32 : u27 69 = nI s := (hm29 69 (by decide)).trans e26
        show ST G mi_Mo_expand 109 [(4, .int (nI 0)), (0, .ref 373), (1, .ref key), (2, .int (nI kpos)), (3, .int (nI 32))] [] u27 0 0 _
        refine ST.lift (fun _ _ k => T_iconst (v := nI 0) d_Mo_expand_109 (by decide) k) ?_
        refine ST.lift (fun _ _ k => T_istore (L' := [(5, .int (nI 0)), (4, .int (nI 0)), (0, .ref 373), (1, .ref key), (2, .int (nI kpos)), (3, .int (nI 32))]) d_Mo_expand_110 (by decide) rfl k) ?_
        have lp36 : ∀ (n34 k33 : Nat), 64 - k33 = n34 → 0 ≤ k33 ∧ k33 ≤ 0 + 64 → ST G mi_Mo_expand 112 [(5, .int (nI k33)), (4, .int (nI 0)), (0, .ref 373), (1, .ref key), (2, .int (nI kpos)), (3, .int (nI 32))] [] u27 0 0 Q := by
          intro n34
          induction n34 using Nat.strongRecOn with
          | _ n34 ih35 =>
            intro k33 h37 h38
            refine ST.lift (fun _ _ k => T_iload d_Mo_expand_112 rfl k) ?_
            refine ST.lift (fun _ _ k => T_bipush (v := nI 64) d_Mo_expand_114 (by decide) k) ?_
            refine S_icmp_geN d_Mo_expand_116 rfl (by omega) (by omega) (fun c39 => ?_) (fun c39 => ?_)
            · refine S_iincN (a := 0) (b := 1) (L' := [(4, .int (nI 1)), (5, .int (nI k33)), (0, .ref 373), (1, .ref key), (2, .int (nI kpos)), (3, .int (nI 32))]) d_Mo_expand_145 (by decide) rfl rfl rfl ?_
              refine ST.lift (fun _ _ k => T_goto (tgt := 48) d_Mo_expand_148 rfl k) ?_
              refine ST.lift (fun _ _ k => T_bipush (v := nI 64) d_Mo_expand_48 (by decide) k) ?_
              refine ST.lift (fun _ _ k => T_iload d_Mo_expand_50 rfl k) ?_
              refine S_imulN d_Mo_expand_52 ?_
              refine S_topi (y := nI 64) (by decide) ?_
              refine ST.lift (fun _ _ k => T_iload_n d_Mo_expand_53 rfl k) ?_
              refine S_icmp_geN d_Mo_expand_54 rfl (by omega) (by omega) (fun _ => ?_) (fun c => by first | exact absurd c (by omega) | exact c.elim | exact absurd c (by decide) | exact absurd (by assumption) c | exact absurd c (by assumption))
              exact S_vret d_Mo_expand_151 rfl (by decide) (by decide) (hQ _ hv28 hm31 (es_u27.trans (congrArg nI (by omega))))
            · refine ST.lift (fun _ _ k => T_aload_n (v := .ref 373) d_Mo_expand_119 rfl (Or.inr ⟨_, rfl⟩) k) ?_
              refine S_getfield d_Mo_expand_120 fg_Mo_99 (w373 _) rfl ?_
              refine ST.lift (fun _ _ k => T_bipush (v := nI 64) d_Mo_expand_123 (by decide) k) ?_
              refine ST.lift (fun _ _ k => T_iload d_Mo_expand_125 rfl k) ?_
              refine S_imulN d_Mo_expand_127 ?_
              refine S_topi (y := nI 0) (by decide) ?_
              refine ST.lift (fun _ _ k => T_iload d_Mo_expand_128 rfl k) ?_
              refine S_iaddN d_Mo_expand_130 ?_
              refine ST.lift (fun _ _ k => T_aload_n (v := .ref 373) d_Mo_expand_131 rfl (Or.inr ⟨_, rfl⟩) k) ?_
              refine S_getfield d_Mo_expand_132 fg_Mo_55 (w373 _) rfl ?_
              refine ST.lift (fun _ _ k => T_iload d_Mo_expand_135 rfl k) ?_
              refine S_iaload d_Mo_expand_137 a383 (vp_in_nI (by omega) (by omega)) (fun z41 => ?_)
              refine S_iastore d_Mo_expand_138 (by decide) a388 (vp_in_nI (by omega) (by omega)) ?_
              refine S_iincN (a := k33) (b := 1) (L' := [(5, .int (nI (k33 + 1))), (4, .int (nI 0)), (0, .ref 373), (1, .ref key), (2, .int (nI kpos)), (3, .int (nI 32))]) d_Mo_expand_139 (by decide) rfl rfl rfl ?_
              refine ST.lift (fun _ _ k => T_goto (tgt := 112) d_Mo_expand_142 rfl k) ?_
              exact ih35 (64 - (k33 + 1)) (by omega) (k33 + 1)  rfl (by omega)
        exact lp36 _ 0  rfl (by omega)
      · refine ST.lift (fun _ _ k => T_aload_n (v := .ref 373) d_Mo_expand_20 rfl (Or.inr ⟨_, rfl⟩) k) ?_
        refine S_getfield d_Mo_expand_21 fg_Mo_96 (w373 _) rfl ?_
        refine ST.lift (fun _ _ k => T_iload d_Mo_expand_24 rfl k) ?_
        refine ST.lift (fun _ _ k => T_aload_n (v := .ref 373) d_Mo_expand_26 rfl (Or.inr ⟨_, rfl⟩) k) ?_
        refine S_getfield d_Mo_expand_27 fg_Mo_1 (w373 _) rfl ?_
        refine ST.lift (fun _ _ k => T_iload d_Mo_expand_30 rfl k) ?_
        refine S_iaload d_Mo_expand_32 a374 (vp_in_nI (by omega) (by omega)) (fun z42 => ?_)
        refine S_iastore d_Mo_expand_33 (by decide) a387 (vp_in_nI (by omega) (by omega)) ?_
        refine S_iincN (a := k5) (b := 1) (L' := [(4, .int (nI (k5 + 1))), (0, .ref 373), (1, .ref key), (2, .int (nI kpos)), (3, .int (nI 32))]) d_Mo_expand_34 (by decide) rfl rfl rfl ?_
        refine ST.lift (fun _ _ k => T_goto (tgt := 11) d_Mo_expand_37 rfl k) ?_
        exact ih7 (s - (k5 + 1)) (by omega) (k5 + 1)  rfl (by omega)
  exact lp8 _ 0  rfl (by omega)
set_option maxRecDepth 100000 in
set_option maxHeartbeats 4000000 in
theorem c_Mo_expand_64 (G : GX) (v : Nat → Int32) (key mk : Nat) (w_key : K0 ≤ key) (a_key : aI key mk) (l_key : mk ≤ 4000) (kpos : Nat) (b_kpos : kpos + 64 ≤ mk) (s : Nat) (es : v 67 = nI s) (hs : s ≤ 390) (hv : okv v) : CS G mi_Mo_expand [.ref 373, .ref key, .int (nI kpos), .int (nI 64)] v (fun r v' => r = none ∧ okv v' ∧ mdf [67, 68, 69] v v' ∧ v' 67 = nI 0) := by
  refine CS.of (by decide) (Nat.le_of_ble_eq_true rfl) ?_
  generalize hQe : (fun (r : Option Value) (v' : Nat → Int32) => r = none ∧ okv v' ∧ mdf [67, 68, 69] v v' ∧ v' 67 = nI 0) = Q
  have hQ : ∀ (u : Nat → Int32) , okv u → mdf [67, 68, 69] v u → u 67 = nI 0 → Q none u := by rw [← hQe]; exact fun u h1 h2 h3 => ⟨rfl, h1, h2, h3⟩
  clear hQe
  have hm : mdf [67, 68, 69] v v := mdf.rf
  show ST G mi_Mo_expand 0 [(0, .ref 373), (1, .ref key), (2, .int (nI kpos)), (3, .int (nI 64))] [] v 0 0 Q
  refine ST.lift (fun _ _ k => T_aload_n (v := .ref 373) d_Mo_expand_0 rfl (Or.inr ⟨_, rfl⟩) k) ?_
  refine ST.lift (fun _ _ k => T_aload_n (v := .ref 373) d_Mo_expand_1 rfl (Or.inr ⟨_, rfl⟩) k) ?_
  refine S_getfield d_Mo_expand_2 fg_Mo_7 (w373 _) rfl ?_
  refine S_topi (y := nI s) (es) ?_
  refine S_putfield (v' := va_up v 69 (nI s)) d_Mo_expand_5 (fp_Mo_93 _) (w373 _) (Nat.le_of_ble_eq_true rfl) ⟨rfl, rfl⟩ (u373_17 _ _) ?_
  have hv2 := hv.up (j := 69) (c := 400) (k := s) (by decide) (by omega)
  have hm3 := hm.go (mdf.up (v := v) (j := 69) (x := (nI s))) (by intro i hi; simp only [List.mem_cons, List.not_mem_nil, or_false] at hi ⊢ <;> omega)
  have e_u1 : (va_up v 69 (nI s)) 69 = (nI s) := by simp [va_up]
  have e4 : (va_up v 69 (nI s)) 67 = nI s := by simp only [va_up]; exact es
  generalize va_up v 69 (nI s) = u1 at hv2 hm3 e_u1 e4 ⊢
  refine ST.lift (fun _ _ k => T_iconst (v := nI 0) d_Mo_expand_8 (by decide) k) ?_
  refine ST.lift (fun _ _ k => T_istore (L' := [(4, .int (nI 0)), (0, .ref 373), (1, .ref key), (2, .int (nI kpos)), (3, .int (nI 64))]) d_Mo_expand_9 (by decide) rfl k) ?_
  have lp8 : ∀ (n6 k5 : Nat), s - k5 = n6 → 0 ≤ k5 ∧ k5 ≤ 0 + s → ST G mi_Mo_expand 11 [(4, .int (nI k5)), (0, .ref 373), (1, .ref key), (2, .int (nI kpos)), (3, .int (nI 64))] [] u1 0 0 Q := by
    intro n6
    induction n6 using Nat.strongRecOn with
    | _ n6 ih7 =>
      intro k5 h9 h10
      refine ST.lift (fun _ _ k => T_iload d_Mo_expand_11 rfl k) ?_
      refine ST.lift (fun _ _ k => T_aload_n (v := .ref 373) d_Mo_expand_13 rfl (Or.inr ⟨_, rfl⟩) k) ?_
      refine S_getfield d_Mo_expand_14 fg_Mo_7 (w373 _) rfl ?_
      refine S_topi (y := nI s) (e4) ?_
      refine S_icmp_geN d_Mo_expand_17 rfl (by omega) (by omega) (fun c11 => ?_) (fun c11 => ?_)
      · refine ST.lift (fun _ _ k => T_aload_n (v := .ref 373) d_Mo_expand_40 rfl (Or.inr ⟨_, rfl⟩) k) ?_
        refine ST.lift (fun _ _ k => T_iconst (v := nI 0) d_Mo_expand_41 (by decide) k) ?_
        refine S_putfield (v' := va_up u1 67 (nI 0)) d_Mo_expand_42 (fp_Mo_7 _) (w373 _) (Nat.le_of_ble_eq_true rfl) ⟨rfl, rfl⟩ (u373_2 _ _) ?_
        have hv14 := hv2.up (j := 67) (c := 4000) (k := 0) (by decide) (by omega)
        have hm15 := hm3.go (mdf.up (v := u1) (j := 67) (x := (nI 0))) (by intro i hi; simp only [List.mem_cons, List.not_mem_nil, or_false] at hi ⊢ <;> omega)
        have e_u13 : (va_up u1 67 (nI 0)) 67 = (nI 0) := by simp [va_up]
        have e16 : (va_up u1 67 (nI 0)) 69 = nI s := by simp only [va_up]; exact e_u1
        generalize va_up u1 67 (nI 0) = u13 at hv14 hm15 e_u13 e16 ⊢
        refine ST.lift (fun _ _ k => T_iconst (v := nI 0) d_Mo_expand_45 (by decide) k) ?_
        refine ST.lift (fun _ _ k => T_istore (L' := [(4, .int (nI 0)), (0, .ref 373), (1, .ref key), (2, .int (nI kpos)), (3, .int (nI 64))]) d_Mo_expand_46 (by decide) rfl k) ?_
        refine ST.lift (fun _ _ k => T_bipush (v := nI 64) d_Mo_expand_48 (by decide) k) ?_
        refine ST.lift (fun _ _ k => T_iload d_Mo_expand_50 rfl k) ?_
        refine S_imulN d_Mo_expand_52 ?_
        refine S_topi (y := nI 0) (by decide) ?_
        refine ST.lift (fun _ _ k => T_iload_n d_Mo_expand_53 rfl k) ?_
        refine S_icmp_geN d_Mo_expand_54 rfl (by omega) (by omega) (fun c => by first | exact absurd c (by omega) | exact c.elim | exact absurd c (by decide) | exact absurd (by assumption) c | exact absurd c (by assumption)) (fun _ => ?_)
        refine ST.lift (fun _ _ k => T_iload d_Mo_expand_57 rfl k) ?_
        refine S_if_leN d_Mo_expand_59 rfl (by omega) (fun _ => ?_) (fun c => by first | exact absurd c (by omega) | exact c.elim | exact absurd c (by decide) | exact absurd (by assumption) c | exact absurd c (by assumption))
        refine ST.lift (fun _ _ k => T_aload_n (v := .ref 373) d_Mo_expand_80 rfl (Or.inr ⟨_, rfl⟩) k) ?_
        refine ST.lift (fun _ _ k => T_aload_n (v := .ref 373) d_Mo_expand_81 rfl (Or.inr ⟨_, rfl⟩) k) ?_
        refine S_getfield d_Mo_expand_82 fg_Mo_96 (w373 _) rfl ?_
        refine ST.lift (fun _ _ k => T_iconst (v := nI 0) d_Mo_expand_85 (by decide) k) ?_
        refine ST.lift (fun _ _ k => T_aload_n (v := .ref 373) d_Mo_expand_86 rfl (Or.inr ⟨_, rfl⟩) k) ?_
        refine S_getfield d_Mo_expand_87 fg_Mo_93 (w373 _) rfl ?_
        refine S_topi (y := nI s) (e16) ?_
        refine S_virtual (as := [.ref 387, .int (nI 0), .int (nI s)]) (rest := []) (b := 373) d_Mo_expand_90 rfl (jw_Mo_bytes.jo (by decide)) lm_Mo_76 ji_Mo_bytes js_Mo_bytes (w373 _) rfl rfl rfl (Nat.le_of_ble_eq_true rfl) (by decide) (by decide) (c_Mo_bytes G u13 387 400 (by decide) a387 (by omega) 0 (by omega) s (by omega) 0 e_u13 (by omega) hv14) (fun r u17 hq => ?_)
        obtain ⟨hr, hv18, hm19, s20, hb_s20, es_u17⟩ := hq
        rw [hr]
        clear hr r
        have hm21 := hm15.go hm19 (by intro i hi; simp only [List.mem_cons, List.not_mem_nil, or_false] at hi ⊢ <;> omega)
        have e22 : u17 69 = nI s := (hm19 69 (by decide)).trans e16
        show ST G mi_Mo_expand 93 [(4, .int (nI 0)), (0, .ref 373), (1, .ref key), (2, .int (nI kpos)), (3, .int (nI 64))] [] u17 0 0 _
        refine ST.lift (fun _ _ k => T_aload_n (v := .ref 373) d_Mo_expand_93 rfl (Or.inr ⟨_, rfl⟩) k) ?_
        refine ST.lift (fun _ _ k => T_iload d_Mo_expand_94 rfl k) ?_
        refine ST.lift (fun _ _ k => T_iconst (v := nI 1) d_Mo_expand_96 (by decide) k) ?_
        refine S_iaddN d_Mo_expand_97 ?_
        refine S_topi (y := nI 1) (by decide) ?_
        refine S_virtual (as := [.int (nI 1)]) (rest := []) (b := 373) d_Mo_expand_98 rfl (jw_Mo_one.jo (by decide)) lm_Mo_11 ji_Mo_one js_Mo_one (w373 _) rfl rfl rfl (Nat.le_of_ble_eq_true rfl) (by decide) (by decide) (c_Mo_one G u17 (nI 1) s20 es_u17 (by omega) hv18) (fun r v' hq => ?_)
        rw [hq.1, hq.2]
        clear hq r v'
        show ST G mi_Mo_expand 101 [(4, .int (nI 0)), (0, .ref 373), (1, .ref key), (2, .int (nI kpos)), (3, .int (nI 64))] [] (va_up u17 67 (nI (s20 + 1))) 0 0 _
        have hv24 := hv18.up (j := 67) (c := 4000) (k := (s20 + 1)) (by decide) (by omega)
        have hm25 := hm21.go (mdf.up (v := u17) (j := 67) (x := (nI (s20 + 1)))) (by intro i hi; simp only [List.mem_cons, List.not_mem_nil, or_false] at hi ⊢ <;> omega)
        have e_u23 : (va_up u17 67 (nI (s20 + 1))) 67 = (nI (s20 + 1)) := by simp [va_up]
        have e26 : (va_up u17 67 (nI (s20 + 1))) 69 = nI s := by simp only [va_up]; exact e22
        generalize va_up u17 67 (nI (s20 + 1)) = u23 at hv24 hm25 e_u23 e26 ⊢
        refine ST.lift (fun _ _ k => T_aload_n (v := .ref 373) d_Mo_expand_101 rfl (Or.inr ⟨_, rfl⟩) k) ?_
        refine ST.lift (fun _ _ k => T_aload_n (v := .ref key) d_Mo_expand_102 rfl (Or.inr ⟨_, rfl⟩) k) ?_
        refine ST.lift (fun _ _ k => T_iload_n d_Mo_expand_103 rfl k) ?_
        refine ST.lift (fun _ _ k => T_bipush (v := nI 64) d_Mo_expand_104 (by decide) k) ?_
        refine S_virtual (as := [.ref key, .int (nI kpos), .int (nI 64)]) (rest := []) (b := 373) d_Mo_expand_106 rfl (jw_Mo_mac.jo (by decide)) lm_Mo_90 ji_Mo_mac js_Mo_mac (w373 _) rfl rfl rfl (Nat.le_of_ble_eq_true rfl) (by decide) (by decide) (c_Mo_mac G u23 key mk w_key a_key (by omega) kpos (by omega) (s20 + 1) e_u23 (by omega) hv24) (fun r u27 hq => ?_)
        obtain ⟨hr, hv28, hm29, es_u27⟩ := hq
        rw [hr]
        clear hr r
        have hm31 := hm25.go hm29 (by intro i hi; simp only [List.mem_cons, List.not_mem_nil, or_false] at hi ⊢ <;> omega)
        have e32 : u27 69 = nI s := (hm29 69 (by decide)).trans e26
        show ST G mi_Mo_expand 109 [(4, .int (nI 0)), (0, .ref 373), (1, .ref key), (2, .int (nI kpos)), (3, .int (nI 64))] [] u27 0 0 _
        refine ST.lift (fun _ _ k => T_iconst (v := nI 0) d_Mo_expand_109 (by decide) k) ?_
        refine ST.lift (fun _ _ k => T_istore (L' := [(5, .int (nI 0)), (4, .int (nI 0)), (0, .ref 373), (1, .ref key), (2, .int (nI kpos)), (3, .int (nI 64))]) d_Mo_expand_110 (by decide) rfl k) ?_
        have lp36 : ∀ (n34 k33 : Nat), 64 - k33 = n34 → 0 ≤ k33 ∧ k33 ≤ 0 + 64 → ST G mi_Mo_expand 112 [(5, .int (nI k33)), (4, .int (nI 0)), (0, .ref 373), (1, .ref key), (2, .int (nI kpos)), (3, .int (nI 64))] [] u27 0 0 Q := by
          intro n34
          induction n34 using Nat.strongRecOn with
          | _ n34 ih35 =>
            intro k33 h37 h38
            refine ST.lift (fun _ _ k => T_iload d_Mo_expand_112 rfl k) ?_
            refine ST.lift (fun _ _ k => T_bipush (v := nI 64) d_Mo_expand_114 (by decide) k) ?_
            refine S_icmp_geN d_Mo_expand_116 rfl (by omega) (by omega) (fun c39 => ?_) (fun c39 => ?_)
            · refine S_iincN (a := 0) (b := 1) (L' := [(4, .int (nI 1)), (5, .int (nI k33)), (0, .ref 373), (1, .ref key), (2, .int (nI kpos)), (3, .int (nI 64))]) d_Mo_expand_145 (by decide) rfl rfl rfl ?_
              refine ST.lift (fun _ _ k => T_goto (tgt := 48) d_Mo_expand_148 rfl k) ?_
              refine ST.lift (fun _ _ k => T_bipush (v := nI 64) d_Mo_expand_48 (by decide) k) ?_
              refine ST.lift (fun _ _ k => T_iload d_Mo_expand_50 rfl k) ?_
              refine S_imulN d_Mo_expand_52 ?_
              refine S_topi (y := nI 64) (by decide) ?_
              refine ST.lift (fun _ _ k => T_iload_n d_Mo_expand_53 rfl k) ?_
              refine S_icmp_geN d_Mo_expand_54 rfl (by omega) (by omega) (fun _ => ?_) (fun c => by first | exact absurd c (by omega) | exact c.elim | exact absurd c (by decide) | exact absurd (by assumption) c | exact absurd c (by assumption))
              exact S_vret d_Mo_expand_151 rfl (by decide) (by decide) (hQ _ hv28 hm31 (es_u27.trans (congrArg nI (by omega))))
            · refine ST.lift (fun _ _ k => T_aload_n (v := .ref 373) d_Mo_expand_119 rfl (Or.inr ⟨_, rfl⟩) k) ?_
              refine S_getfield d_Mo_expand_120 fg_Mo_99 (w373 _) rfl ?_
              refine ST.lift (fun _ _ k => T_bipush (v := nI 64) d_Mo_expand_123 (by decide) k) ?_
              refine ST.lift (fun _ _ k => T_iload d_Mo_expand_125 rfl k) ?_
              refine S_imulN d_Mo_expand_127 ?_
              refine S_topi (y := nI 0) (by decide) ?_
              refine ST.lift (fun _ _ k => T_iload d_Mo_expand_128 rfl k) ?_
              refine S_iaddN d_Mo_expand_130 ?_
              refine ST.lift (fun _ _ k => T_aload_n (v := .ref 373) d_Mo_expand_131 rfl (Or.inr ⟨_, rfl⟩) k) ?_
              refine S_getfield d_Mo_expand_132 fg_Mo_55 (w373 _) rfl ?_
              refine ST.lift (fun _ _ k => T_iload d_Mo_expand_135 rfl k) ?_
              refine S_iaload d_Mo_expand_137 a383 (vp_in_nI (by omega) (by omega)) (fun z41 => ?_)
              refine S_iastore d_Mo_expand_138 (by decide) a388 (vp_in_nI (by omega) (by omega)) ?_
              refine S_iincN (a := k33) (b := 1) (L' := [(5, .int (nI (k33 + 1))), (4, .int (nI 0)), (0, .ref 373), (1, .ref key), (2, .int (nI kpos)), (3, .int (nI 64))]) d_Mo_expand_139 (by decide) rfl rfl rfl ?_
              refine ST.lift (fun _ _ k => T_goto (tgt := 112) d_Mo_expand_142 rfl k) ?_
              exact ih35 (64 - (k33 + 1)) (by omega) (k33 + 1)  rfl (by omega)
        exact lp36 _ 0  rfl (by omega)
      · refine ST.lift (fun _ _ k => T_aload_n (v := .ref 373) d_Mo_expand_20 rfl (Or.inr ⟨_, rfl⟩) k) ?_
        refine S_getfield d_Mo_expand_21 fg_Mo_96 (w373 _) rfl ?_
        refine ST.lift (fun _ _ k => T_iload d_Mo_expand_24 rfl k) ?_
        refine ST.lift (fun _ _ k => T_aload_n (v := .ref 373) d_Mo_expand_26 rfl (Or.inr ⟨_, rfl⟩) k) ?_
        refine S_getfield d_Mo_expand_27 fg_Mo_1 (w373 _) rfl ?_
        refine ST.lift (fun _ _ k => T_iload d_Mo_expand_30 rfl k) ?_
        refine S_iaload d_Mo_expand_32 a374 (vp_in_nI (by omega) (by omega)) (fun z42 => ?_)
        refine S_iastore d_Mo_expand_33 (by decide) a387 (vp_in_nI (by omega) (by omega)) ?_
        refine S_iincN (a := k5) (b := 1) (L' := [(4, .int (nI (k5 + 1))), (0, .ref 373), (1, .ref key), (2, .int (nI kpos)), (3, .int (nI 64))]) d_Mo_expand_34 (by decide) rfl rfl rfl ?_
        refine ST.lift (fun _ _ k => T_goto (tgt := 11) d_Mo_expand_37 rfl k) ?_
        exact ih7 (s - (k5 + 1)) (by omega) (k5 + 1)  rfl (by omega)
  exact lp8 _ 0  rfl (by omega)
set_option maxRecDepth 100000 in
set_option maxHeartbeats 4000000 in
theorem c_Mo_expand_128 (G : GX) (v : Nat → Int32) (key mk : Nat) (w_key : K0 ≤ key) (a_key : aI key mk) (l_key : mk ≤ 4000) (kpos : Nat) (b_kpos : kpos + 64 ≤ mk) (s : Nat) (es : v 67 = nI s) (hs : s ≤ 390) (hv : okv v) : CS G mi_Mo_expand [.ref 373, .ref key, .int (nI kpos), .int (nI 128)] v (fun r v' => r = none ∧ okv v' ∧ mdf [67, 68, 69] v v' ∧ v' 67 = nI 0) := by
  refine CS.of (by decide) (Nat.le_of_ble_eq_true rfl) ?_
  generalize hQe : (fun (r : Option Value) (v' : Nat → Int32) => r = none ∧ okv v' ∧ mdf [67, 68, 69] v v' ∧ v' 67 = nI 0) = Q
  have hQ : ∀ (u : Nat → Int32) , okv u → mdf [67, 68, 69] v u → u 67 = nI 0 → Q none u := by rw [← hQe]; exact fun u h1 h2 h3 => ⟨rfl, h1, h2, h3⟩
  clear hQe
  have hm : mdf [67, 68, 69] v v := mdf.rf
  show ST G mi_Mo_expand 0 [(0, .ref 373), (1, .ref key), (2, .int (nI kpos)), (3, .int (nI 128))] [] v 0 0 Q
  refine ST.lift (fun _ _ k => T_aload_n (v := .ref 373) d_Mo_expand_0 rfl (Or.inr ⟨_, rfl⟩) k) ?_
  refine ST.lift (fun _ _ k => T_aload_n (v := .ref 373) d_Mo_expand_1 rfl (Or.inr ⟨_, rfl⟩) k) ?_
  refine S_getfield d_Mo_expand_2 fg_Mo_7 (w373 _) rfl ?_
  refine S_topi (y := nI s) (es) ?_
  refine S_putfield (v' := va_up v 69 (nI s)) d_Mo_expand_5 (fp_Mo_93 _) (w373 _) (Nat.le_of_ble_eq_true rfl) ⟨rfl, rfl⟩ (u373_17 _ _) ?_
  have hv2 := hv.up (j := 69) (c := 400) (k := s) (by decide) (by omega)
  have hm3 := hm.go (mdf.up (v := v) (j := 69) (x := (nI s))) (by intro i hi; simp only [List.mem_cons, List.not_mem_nil, or_false] at hi ⊢ <;> omega)
  have e_u1 : (va_up v 69 (nI s)) 69 = (nI s) := by simp [va_up]
  have e4 : (va_up v 69 (nI s)) 67 = nI s := by simp only [va_up]; exact es
  generalize va_up v 69 (nI s) = u1 at hv2 hm3 e_u1 e4 ⊢
  refine ST.lift (fun _ _ k => T_iconst (v := nI 0) d_Mo_expand_8 (by decide) k) ?_
  refine ST.lift (fun _ _ k => T_istore (L' := [(4, .int (nI 0)), (0, .ref 373), (1, .ref key), (2, .int (nI kpos)), (3, .int (nI 128))]) d_Mo_expand_9 (by decide) rfl k) ?_
  have lp8 : ∀ (n6 k5 : Nat), s - k5 = n6 → 0 ≤ k5 ∧ k5 ≤ 0 + s → ST G mi_Mo_expand 11 [(4, .int (nI k5)), (0, .ref 373), (1, .ref key), (2, .int (nI kpos)), (3, .int (nI 128))] [] u1 0 0 Q := by
    intro n6
    induction n6 using Nat.strongRecOn with
    | _ n6 ih7 =>
      intro k5 h9 h10
      refine ST.lift (fun _ _ k => T_iload d_Mo_expand_11 rfl k) ?_
      refine ST.lift (fun _ _ k => T_aload_n (v := .ref 373) d_Mo_expand_13 rfl (Or.inr ⟨_, rfl⟩) k) ?_
      refine S_getfield d_Mo_expand_14 fg_Mo_7 (w373 _) rfl ?_
      refine S_topi (y := nI s) (e4) ?_
      refine S_icmp_geN d_Mo_expand_17 rfl (by omega) (by omega) (fun c11 => ?_) (fun c11 => ?_)
      · refine ST.lift (fun _ _ k => T_aload_n (v := .ref 373) d_Mo_expand_40 rfl (Or.inr ⟨_, rfl⟩) k) ?_
        refine ST.lift (fun _ _ k => T_iconst (v := nI 0) d_Mo_expand_41 (by decide) k) ?_
        refine S_putfield (v' := va_up u1 67 (nI 0)) d_Mo_expand_42 (fp_Mo_7 _) (w373 _) (Nat.le_of_ble_eq_true rfl) ⟨rfl, rfl⟩ (u373_2 _ _) ?_
        have hv14 := hv2.up (j := 67) (c := 4000) (k := 0) (by decide) (by omega)
        have hm15 := hm3.go (mdf.up (v := u1) (j := 67) (x := (nI 0))) (by intro i hi; simp only [List.mem_cons, List.not_mem_nil, or_false] at hi ⊢ <;> omega)
        have e_u13 : (va_up u1 67 (nI 0)) 67 = (nI 0) := by simp [va_up]
        have e16 : (va_up u1 67 (nI 0)) 69 = nI s := by simp only [va_up]; exact e_u1
        generalize va_up u1 67 (nI 0) = u13 at hv14 hm15 e_u13 e16 ⊢
        refine ST.lift (fun _ _ k => T_iconst (v := nI 0) d_Mo_expand_45 (by decide) k) ?_
        refine ST.lift (fun _ _ k => T_istore (L' := [(4, .int (nI 0)), (0, .ref 373), (1, .ref key), (2, .int (nI kpos)), (3, .int (nI 128))]) d_Mo_expand_46 (by decide) rfl k) ?_
        refine ST.lift (fun _ _ k => T_bipush (v := nI 64) d_Mo_expand_48 (by decide) k) ?_
        refine ST.lift (fun _ _ k => T_iload d_Mo_expand_50 rfl k) ?_
        refine S_imulN d_Mo_expand_52 ?_
        refine S_topi (y := nI 0) (by decide) ?_
        refine ST.lift (fun _ _ k => T_iload_n d_Mo_expand_53 rfl k) ?_
        refine S_icmp_geN d_Mo_expand_54 rfl (by omega) (by omega) (fun c => by first | exact absurd c (by omega) | exact c.elim | exact absurd c (by decide) | exact absurd (by assumption) c | exact absurd c (by assumption)) (fun _ => ?_)
        refine ST.lift (fun _ _ k => T_iload d_Mo_expand_57 rfl k) ?_
        refine S_if_leN d_Mo_expand_59 rfl (by omega) (fun _ => ?_) (fun c => by first | exact absurd c (by omega) | exact c.elim | exact absurd c (by decide) | exact absurd (by assumption) c | exact absurd c (by assumption))
        refine ST.lift (fun _ _ k => T_aload_n (v := .ref 373) d_Mo_expand_80 rfl (Or.inr ⟨_, rfl⟩) k) ?_
        refine ST.lift (fun _ _ k => T_aload_n (v := .ref 373) d_Mo_expand_81 rfl (Or.inr ⟨_, rfl⟩) k) ?_
        refine S_getfield d_Mo_expand_82 fg_Mo_96 (w373 _) rfl ?_
        refine ST.lift (fun _ _ k => T_iconst (v := nI 0) d_Mo_expand_85 (by decide) k) ?_
        refine ST.lift (fun _ _ k => T_aload_n (v := .ref 373) d_Mo_expand_86 rfl (Or.inr ⟨_, rfl⟩) k) ?_
        refine S_getfield d_Mo_expand_87 fg_Mo_93 (w373 _) rfl ?_
        refine S_topi (y := nI s) (e16) ?_
        refine S_virtual (as := [.ref 387, .int (nI 0), .int (nI s)]) (rest := []) (b := 373) d_Mo_expand_90 rfl (jw_Mo_bytes.jo (by decide)) lm_Mo_76 ji_Mo_bytes js_Mo_bytes (w373 _) rfl rfl rfl (Nat.le_of_ble_eq_true rfl) (by decide) (by decide) (c_Mo_bytes G u13 387 400 (by decide) a387 (by omega) 0 (by omega) s (by omega) 0 e_u13 (by omega) hv14) (fun r u17 hq => ?_)
        obtain ⟨hr, hv18, hm19, s20, hb_s20, es_u17⟩ := hq
        rw [hr]
        clear hr r
        have hm21 := hm15.go hm19 (by intro i hi; simp only [List.mem_cons, List.not_mem_nil, or_false] at hi ⊢ <;> omega)
        have e22 : u17 69 = nI s := (hm19 69 (by decide)).trans e16
        show ST G mi_Mo_expand 93 [(4, .int (nI 0)), (0, .ref 373), (1, .ref key), (2, .int (nI kpos)), (3, .int (nI 128))] [] u17 0 0 _
        refine ST.lift (fun _ _ k => T_aload_n (v := .ref 373) d_Mo_expand_93 rfl (Or.inr ⟨_, rfl⟩) k) ?_
        refine ST.lift (fun _ _ k => T_iload d_Mo_expand_94 rfl k) ?_
        refine ST.lift (fun _ _ k => T_iconst (v := nI 1) d_Mo_expand_96 (by decide) k) ?_
        refine S_iaddN d_Mo_expand_97 ?_
        refine S_topi (y := nI 1) (by decide) ?_
        refine S_virtual (as := [.int (nI 1)]) (rest := []) (b := 373) d_Mo_expand_98 rfl (jw_Mo_one.jo (by decide)) lm_Mo_11 ji_Mo_one js_Mo_one (w373 _) rfl rfl rfl (Nat.le_of_ble_eq_true rfl) (by decide) (by decide) (c_Mo_one G u17 (nI 1) s20 es_u17 (by omega) hv18) (fun r v' hq => ?_)
        rw [hq.1, hq.2]
        clear hq r v'
        show ST G mi_Mo_expand 101 [(4, .int (nI 0)), (0, .ref 373), (1, .ref key), (2, .int (nI kpos)), (3, .int (nI 128))] [] (va_up u17 67 (nI (s20 + 1))) 0 0 _
        have hv24 := hv18.up (j := 67) (c := 4000) (k := (s20 + 1)) (by decide) (by omega)
        have hm25 := hm21.go (mdf.up (v := u17) (j := 67) (x := (nI (s20 + 1)))) (by intro i hi; simp only [List.mem_cons, List.not_mem_nil, or_false] at hi ⊢ <;> omega)
        have e_u23 : (va_up u17 67 (nI (s20 + 1))) 67 = (nI (s20 + 1)) := by simp [va_up]
        have e26 : (va_up u17 67 (nI (s20 + 1))) 69 = nI s := by simp only [va_up]; exact e22
        generalize va_up u17 67 (nI (s20 + 1)) = u23 at hv24 hm25 e_u23 e26 ⊢
        refine ST.lift (fun _ _ k => T_aload_n (v := .ref 373) d_Mo_expand_101 rfl (Or.inr ⟨_, rfl⟩) k) ?_
        refine ST.lift (fun _ _ k => T_aload_n (v := .ref key) d_Mo_expand_102 rfl (Or.inr ⟨_, rfl⟩) k) ?_
        refine ST.lift (fun _ _ k => T_iload_n d_Mo_expand_103 rfl k) ?_
        refine ST.lift (fun _ _ k => T_bipush (v := nI 64) d_Mo_expand_104 (by decide) k) ?_
        refine S_virtual (as := [.ref key, .int (nI kpos), .int (nI 64)]) (rest := []) (b := 373) d_Mo_expand_106 rfl (jw_Mo_mac.jo (by decide)) lm_Mo_90 ji_Mo_mac js_Mo_mac (w373 _) rfl rfl rfl (Nat.le_of_ble_eq_true rfl) (by decide) (by decide) (c_Mo_mac G u23 key mk w_key a_key (by omega) kpos (by omega) (s20 + 1) e_u23 (by omega) hv24) (fun r u27 hq => ?_)
        obtain ⟨hr, hv28, hm29, es_u27⟩ := hq
        rw [hr]
        clear hr r
        have hm31 := hm25.go hm29 (by intro i hi; simp only [List.mem_cons, List.not_mem_nil, or_false] at hi ⊢ <;> omega)
        have e32 : u27 69 = nI s := (hm29 69 (by decide)).trans e26
        show ST G mi_Mo_expand 109 [(4, .int (nI 0)), (0, .ref 373), (1, .ref key), (2, .int (nI kpos)), (3, .int (nI 128))] [] u27 0 0 _
        refine ST.lift (fun _ _ k => T_iconst (v := nI 0) d_Mo_expand_109 (by decide) k) ?_
        refine ST.lift (fun _ _ k => T_istore (L' := [(5, .int (nI 0)), (4, .int (nI 0)), (0, .ref 373), (1, .ref key), (2, .int (nI kpos)), (3, .int (nI 128))]) d_Mo_expand_110 (by decide) rfl k) ?_
        have lp36 : ∀ (n34 k33 : Nat), 64 - k33 = n34 → 0 ≤ k33 ∧ k33 ≤ 0 + 64 → ST G mi_Mo_expand 112 [(5, .int (nI k33)), (4, .int (nI 0)), (0, .ref 373), (1, .ref key), (2, .int (nI kpos)), (3, .int (nI 128))] [] u27 0 0 Q := by
          intro n34
          induction n34 using Nat.strongRecOn with
          | _ n34 ih35 =>
            intro k33 h37 h38
            refine ST.lift (fun _ _ k => T_iload d_Mo_expand_112 rfl k) ?_
            refine ST.lift (fun _ _ k => T_bipush (v := nI 64) d_Mo_expand_114 (by decide) k) ?_
            refine S_icmp_geN d_Mo_expand_116 rfl (by omega) (by omega) (fun c39 => ?_) (fun c39 => ?_)
            · refine S_iincN (a := 0) (b := 1) (L' := [(4, .int (nI 1)), (5, .int (nI k33)), (0, .ref 373), (1, .ref key), (2, .int (nI kpos)), (3, .int (nI 128))]) d_Mo_expand_145 (by decide) rfl rfl rfl ?_
              refine ST.lift (fun _ _ k => T_goto (tgt := 48) d_Mo_expand_148 rfl k) ?_
              refine ST.lift (fun _ _ k => T_bipush (v := nI 64) d_Mo_expand_48 (by decide) k) ?_
              refine ST.lift (fun _ _ k => T_iload d_Mo_expand_50 rfl k) ?_
              refine S_imulN d_Mo_expand_52 ?_
              refine S_topi (y := nI 64) (by decide) ?_
              refine ST.lift (fun _ _ k => T_iload_n d_Mo_expand_53 rfl k) ?_
              refine S_icmp_geN d_Mo_expand_54 rfl (by omega) (by omega) (fun c => by first | exact absurd c (by omega) | exact c.elim | exact absurd c (by decide) | exact absurd (by assumption) c | exact absurd c (by assumption)) (fun _ => ?_)
              refine ST.lift (fun _ _ k => T_iload d_Mo_expand_57 rfl k) ?_
              refine S_if_leN d_Mo_expand_59 rfl (by omega) (fun c => by first | exact absurd c (by omega) | exact c.elim | exact absurd c (by decide) | exact absurd (by assumption) c | exact absurd c (by assumption)) (fun _ => ?_)
              refine ST.lift (fun _ _ k => T_aload_n (v := .ref 373) d_Mo_expand_62 rfl (Or.inr ⟨_, rfl⟩) k) ?_
              refine ST.lift (fun _ _ k => T_aload_n (v := .ref 373) d_Mo_expand_63 rfl (Or.inr ⟨_, rfl⟩) k) ?_
              refine S_getfield d_Mo_expand_64 fg_Mo_99 (w373 _) rfl ?_
              refine ST.lift (fun _ _ k => T_bipush (v := nI 64) d_Mo_expand_67 (by decide) k) ?_
              refine ST.lift (fun _ _ k => T_iload d_Mo_expand_69 rfl k) ?_
              refine S_imulN d_Mo_expand_71 ?_
              refine S_topi (y := nI 64) (by decide) ?_
              refine ST.lift (fun _ _ k => T_bipush (v := nI 64) d_Mo_expand_72 (by decide) k) ?_
              refine S_isubN d_Mo_expand_74 (by omega) ?_
              refine S_topi (y := nI 0) (by decide) ?_
              refine ST.lift (fun _ _ k => T_bipush (v := nI 64) d_Mo_expand_75 (by decide) k) ?_
              refine S_virtual (as := [.ref 388, .int (nI 0), .int (nI 64)]) (rest := []) (b := 373) d_Mo_expand_77 rfl (jw_Mo_bytes.jo (by decide)) lm_Mo_76 ji_Mo_bytes js_Mo_bytes (w373 _) rfl rfl rfl (Nat.le_of_ble_eq_true rfl) (by decide) (by decide) (c_Mo_bytes G u27 388 192 (by decide) a388 (by omega) 0 (by omega) 64 (by omega) 0 es_u27 (by omega) hv28) (fun r u41 hq => ?_)
              obtain ⟨hr, hv42, hm43, s44, hb_s44, es_u41⟩ := hq
              rw [hr]
              clear hr r
              have hm45 := hm31.go hm43 (by intro i hi; simp only [List.mem_cons, List.not_mem_nil, or_false] at hi ⊢ <;> omega)
              have e46 : u41 69 = nI s := (hm43 69 (by decide)).trans e32
              show ST G mi_Mo_expand 80 [(4, .int (nI 1)), (5, .int (nI k33)), (0, .ref 373), (1, .ref key), (2, .int (nI kpos)), (3, .int (nI 128))] [] u41 0 0 _
              refine ST.lift (fun _ _ k => T_aload_n (v := .ref 373) d_Mo_expand_80 rfl (Or.inr ⟨_, rfl⟩) k) ?_
              refine ST.lift (fun _ _ k => T_aload_n (v := .ref 373) d_Mo_expand_81 rfl (Or.inr ⟨_, rfl⟩) k) ?_
              refine S_getfield d_Mo_expand_82 fg_Mo_96 (w373 _) rfl ?_
              refine ST.lift (fun _ _ k => T_iconst (v := nI 0) d_Mo_expand_85 (by decide) k) ?_
              refine ST.lift (fun _ _ k => T_aload_n (v := .ref 373) d_Mo_expand_86 rfl (Or.inr ⟨_, rfl⟩) k) ?_
              refine S_getfield d_Mo_expand_87 fg_Mo_93 (w373 _) rfl ?_
              refine S_topi (y := nI s) (e46) ?_
              refine S_virtual (as := [.ref 387, .int (nI 0), .int (nI s)]) (rest := []) (b := 373) d_Mo_expand_90 rfl (jw_Mo_bytes.jo (by decide)) lm_Mo_76 ji_Mo_bytes js_Mo_bytes (w373 _) rfl rfl rfl (Nat.le_of_ble_eq_true rfl) (by decide) (by decide) (c_Mo_bytes G u41 387 400 (by decide) a387 (by omega) 0 (by omega) s (by omega) s44 es_u41 (by omega) hv42) (fun r u47 hq => ?_)
              obtain ⟨hr, hv48, hm49, s50, hb_s50, es_u47⟩ := hq
              rw [hr]
              clear hr r
              have hm51 := hm45.go hm49 (by intro i hi; simp only [List.mem_cons, List.not_mem_nil, or_false] at hi ⊢ <;> omega)
              have e52 : u47 69 = nI s := (hm49 69 (by decide)).trans e46
              show ST G mi_Mo_expand 93 [(4, .int (nI 1)), (5, .int (nI k33)), (0, .ref 373), (1, .ref key), (2, .int (nI kpos)), (3, .int (nI 128))] [] u47 0 0 _
              refine ST.lift (fun _ _ k => T_aload_n (v := .ref 373) d_Mo_expand_93 rfl (Or.inr ⟨_, rfl⟩) k) ?_
              refine ST.lift (fun _ _ k => T_iload d_Mo_expand_94 rfl k) ?_
              refine ST.lift (fun _ _ k => T_iconst (v := nI 1) d_Mo_expand_96 (by decide) k) ?_
              refine S_iaddN d_Mo_expand_97 ?_
              refine S_topi (y := nI 2) (by decide) ?_
              refine S_virtual (as := [.int (nI 2)]) (rest := []) (b := 373) d_Mo_expand_98 rfl (jw_Mo_one.jo (by decide)) lm_Mo_11 ji_Mo_one js_Mo_one (w373 _) rfl rfl rfl (Nat.le_of_ble_eq_true rfl) (by decide) (by decide) (c_Mo_one G u47 (nI 2) s50 es_u47 (by omega) hv48) (fun r v' hq => ?_)
              rw [hq.1, hq.2]
              clear hq r v'
              show ST G mi_Mo_expand 101 [(4, .int (nI 1)), (5, .int (nI k33)), (0, .ref 373), (1, .ref key), (2, .int (nI kpos)), (3, .int (nI 128))] [] (va_up u47 67 (nI (s50 + 1))) 0 0 _
              have hv54 := hv48.up (j := 67) (c := 4000) (k := (s50 + 1)) (by decide) (by omega)
              have hm55 := hm51.go (mdf.up (v := u47) (j := 67) (x := (nI (s50 + 1)))) (by intro i hi; simp only [List.mem_cons, List.not_mem_nil, or_false] at hi ⊢ <;> omega)
              have e_u53 : (va_up u47 67 (nI (s50 + 1))) 67 = (nI (s50 + 1)) := by simp [va_up]
              have e56 : (va_up u47 67 (nI (s50 + 1))) 69 = nI s := by simp only [va_up]; exact e52
              generalize va_up u47 67 (nI (s50 + 1)) = u53 at hv54 hm55 e_u53 e56 ⊢
              refine ST.lift (fun _ _ k => T_aload_n (v := .ref 373) d_Mo_expand_101 rfl (Or.inr ⟨_, rfl⟩) k) ?_
              refine ST.lift (fun _ _ k => T_aload_n (v := .ref key) d_Mo_expand_102 rfl (Or.inr ⟨_, rfl⟩) k) ?_
              refine ST.lift (fun _ _ k => T_iload_n d_Mo_expand_103 rfl k) ?_
              refine ST.lift (fun _ _ k => T_bipush (v := nI 64) d_Mo_expand_104 (by decide) k) ?_
              refine S_virtual (as := [.ref key, .int (nI kpos), .int (nI 64)]) (rest := []) (b := 373) d_Mo_expand_106 rfl (jw_Mo_mac.jo (by decide)) lm_Mo_90 ji_Mo_mac js_Mo_mac (w373 _) rfl rfl rfl (Nat.le_of_ble_eq_true rfl) (by decide) (by decide) (c_Mo_mac G u53 key mk w_key a_key (by omega) kpos (by omega) (s50 + 1) e_u53 (by omega) hv54) (fun r u57 hq => ?_)
              obtain ⟨hr, hv58, hm59, es_u57⟩ := hq
              rw [hr]
              clear hr r
              have hm61 := hm55.go hm59 (by intro i hi; simp only [List.mem_cons, List.not_mem_nil, or_false] at hi ⊢ <;> omega)
              have e62 : u57 69 = nI s := (hm59 69 (by decide)).trans e56
              show ST G mi_Mo_expand 109 [(4, .int (nI 1)), (5, .int (nI k33)), (0, .ref 373), (1, .ref key), (2, .int (nI kpos)), (3, .int (nI 128))] [] u57 0 0 _
              refine ST.lift (fun _ _ k => T_iconst (v := nI 0) d_Mo_expand_109 (by decide) k) ?_
              refine ST.lift (fun _ _ k => T_istore (L' := [(5, .int (nI 0)), (4, .int (nI 1)), (0, .ref 373), (1, .ref key), (2, .int (nI kpos)), (3, .int (nI 128))]) d_Mo_expand_110 (by decide) rfl k) ?_
              have lp66 : ∀ (n64 k63 : Nat), 64 - k63 = n64 → 0 ≤ k63 ∧ k63 ≤ 0 + 64 → ST G mi_Mo_expand 112 [(5, .int (nI k63)), (4, .int (nI 1)), (0, .ref 373), (1, .ref key), (2, .int (nI kpos)), (3, .int (nI 128))] [] u57 0 0 Q := by
                intro n64
                induction n64 using Nat.strongRecOn with
                | _ n64 ih65 =>
                  intro k63 h67 h68
                  refine ST.lift (fun _ _ k => T_iload d_Mo_expand_112 rfl k) ?_
                  refine ST.lift (fun _ _ k => T_bipush (v := nI 64) d_Mo_expand_114 (by decide) k) ?_
                  refine S_icmp_geN d_Mo_expand_116 rfl (by omega) (by omega) (fun c69 => ?_) (fun c69 => ?_)
                  · refine S_iincN (a := 1) (b := 1) (L' := [(4, .int (nI 2)), (5, .int (nI k63)), (0, .ref 373), (1, .ref key), (2, .int (nI kpos)), (3, .int (nI 128))]) d_Mo_expand_145 (by decide) rfl rfl rfl ?_
                    refine ST.lift (fun _ _ k => T_goto (tgt := 48) d_Mo_expand_148 rfl k) ?_
                    refine ST.lift (fun _ _ k => T_bipush (v := nI 64) d_Mo_expand_48 (by decide) k) ?_
                    refine ST.lift (fun _ _ k => T_iload d_Mo_expand_50 rfl k) ?_
                    refine S_imulN d_Mo_expand_52 ?_
                    refine S_topi (y := nI 128) (by decide) ?_
                    refine ST.lift (fun _ _ k => T_iload_n d_Mo_expand_53 rfl k) ?_
                    refine S_icmp_geN d_Mo_expand_54 rfl (by omega) (by omega) (fun _ => ?_) (fun c => by first | exact absurd c (by omega) | exact c.elim | exact absurd c (by decide) | exact absurd (by assumption) c | exact absurd c (by assumption))
                    exact S_vret d_Mo_expand_151 rfl (by decide) (by decide) (hQ _ hv58 hm61 (es_u57.trans (congrArg nI (by omega))))
                  · refine ST.lift (fun _ _ k => T_aload_n (v := .ref 373) d_Mo_expand_119 rfl (Or.inr ⟨_, rfl⟩) k) ?_
                    refine S_getfield d_Mo_expand_120 fg_Mo_99 (w373 _) rfl ?_
                    refine ST.lift (fun _ _ k => T_bipush (v := nI 64) d_Mo_expand_123 (by decide) k) ?_
                    refine ST.lift (fun _ _ k => T_iload d_Mo_expand_125 rfl k) ?_
                    refine S_imulN d_Mo_expand_127 ?_
                    refine S_topi (y := nI 64) (by decide) ?_
                    refine ST.lift (fun _ _ k => T_iload d_Mo_expand_128 rfl k) ?_
                    refine S_iaddN d_Mo_expand_130 ?_
                    refine ST.lift (fun _ _ k => T_aload_n (v := .ref 373) d_Mo_expand_131 rfl (Or.inr ⟨_, rfl⟩) k) ?_
                    refine S_getfield d_Mo_expand_132 fg_Mo_55 (w373 _) rfl ?_
                    refine ST.lift (fun _ _ k => T_iload d_Mo_expand_135 rfl k) ?_
                    refine S_iaload d_Mo_expand_137 a383 (vp_in_nI (by omega) (by omega)) (fun z71 => ?_)
                    refine S_iastore d_Mo_expand_138 (by decide) a388 (vp_in_nI (by omega) (by omega)) ?_
                    refine S_iincN (a := k63) (b := 1) (L' := [(5, .int (nI (k63 + 1))), (4, .int (nI 1)), (0, .ref 373), (1, .ref key), (2, .int (nI kpos)), (3, .int (nI 128))]) d_Mo_expand_139 (by decide) rfl rfl rfl ?_
                    refine ST.lift (fun _ _ k => T_goto (tgt := 112) d_Mo_expand_142 rfl k) ?_
                    exact ih65 (64 - (k63 + 1)) (by omega) (k63 + 1)  rfl (by omega)
              exact lp66 _ 0  rfl (by omega)
            · refine ST.lift (fun _ _ k => T_aload_n (v := .ref 373) d_Mo_expand_119 rfl (Or.inr ⟨_, rfl⟩) k) ?_
              refine S_getfield d_Mo_expand_120 fg_Mo_99 (w373 _) rfl ?_
              refine ST.lift (fun _ _ k => T_bipush (v := nI 64) d_Mo_expand_123 (by decide) k) ?_
              refine ST.lift (fun _ _ k => T_iload d_Mo_expand_125 rfl k) ?_
              refine S_imulN d_Mo_expand_127 ?_
              refine S_topi (y := nI 0) (by decide) ?_
              refine ST.lift (fun _ _ k => T_iload d_Mo_expand_128 rfl k) ?_
              refine S_iaddN d_Mo_expand_130 ?_
              refine ST.lift (fun _ _ k => T_aload_n (v := .ref 373) d_Mo_expand_131 rfl (Or.inr ⟨_, rfl⟩) k) ?_
              refine S_getfield d_Mo_expand_132 fg_Mo_55 (w373 _) rfl ?_
              refine ST.lift (fun _ _ k => T_iload d_Mo_expand_135 rfl k) ?_
              refine S_iaload d_Mo_expand_137 a383 (vp_in_nI (by omega) (by omega)) (fun z72 => ?_)
              refine S_iastore d_Mo_expand_138 (by decide) a388 (vp_in_nI (by omega) (by omega)) ?_
              refine S_iincN (a := k33) (b := 1) (L' := [(5, .int (nI (k33 + 1))), (4, .int (nI 0)), (0, .ref 373), (1, .ref key), (2, .int (nI kpos)), (3, .int (nI 128))]) d_Mo_expand_139 (by decide) rfl rfl rfl ?_
              refine ST.lift (fun _ _ k => T_goto (tgt := 112) d_Mo_expand_142 rfl k) ?_
              exact ih35 (64 - (k33 + 1)) (by omega) (k33 + 1)  rfl (by omega)
        exact lp36 _ 0  rfl (by omega)
      · refine ST.lift (fun _ _ k => T_aload_n (v := .ref 373) d_Mo_expand_20 rfl (Or.inr ⟨_, rfl⟩) k) ?_
        refine S_getfield d_Mo_expand_21 fg_Mo_96 (w373 _) rfl ?_
        refine ST.lift (fun _ _ k => T_iload d_Mo_expand_24 rfl k) ?_
        refine ST.lift (fun _ _ k => T_aload_n (v := .ref 373) d_Mo_expand_26 rfl (Or.inr ⟨_, rfl⟩) k) ?_
        refine S_getfield d_Mo_expand_27 fg_Mo_1 (w373 _) rfl ?_
        refine ST.lift (fun _ _ k => T_iload d_Mo_expand_30 rfl k) ?_
        refine S_iaload d_Mo_expand_32 a374 (vp_in_nI (by omega) (by omega)) (fun z73 => ?_)
        refine S_iastore d_Mo_expand_33 (by decide) a387 (vp_in_nI (by omega) (by omega)) ?_
        refine S_iincN (a := k5) (b := 1) (L' := [(4, .int (nI (k5 + 1))), (0, .ref 373), (1, .ref key), (2, .int (nI kpos)), (3, .int (nI 128))]) d_Mo_expand_34 (by decide) rfl rfl rfl ?_
        refine ST.lift (fun _ _ k => T_goto (tgt := 11) d_Mo_expand_37 rfl k) ?_
        exact ih7 (s - (k5 + 1)) (by omega) (k5 + 1)  rfl (by omega)
  exact lp8 _ 0  rfl (by omega)
set_option maxRecDepth 100000 in
set_option maxHeartbeats 4000000 in
theorem c_Mo_letterC (G : GX) (v : Nat → Int32) (s : Nat) (es : v 67 = nI s) (hs : s ≤ 3900) (hv : okv v) : CS G mi_Mo_letterC [.ref 373] v (fun r v' => r = none ∧ okv v' ∧ mdf [67] v v' ∧ ∃ s', s' ≤ s + 33 ∧ v' 67 = nI s') := by
  refine CS.of (by decide) (Nat.le_of_ble_eq_true rfl) ?_
  generalize hQe : (fun (r : Option Value) (v' : Nat → Int32) => r = none ∧ okv v' ∧ mdf [67] v v' ∧ ∃ s', s' ≤ s + 33 ∧ v' 67 = nI s') = Q
  have hQ : ∀ (u : Nat → Int32) (s' : Nat) , okv u → mdf [67] v u → s' ≤ s + 33 → u 67 = nI s' → Q none u := by rw [← hQe]; exact fun u s' h1 h2 h3 h4 => ⟨rfl, h1, h2, s', h3, h4⟩
  clear hQe
  have hm : mdf [67] v v := mdf.rf
  show ST G mi_Mo_letterC 0 [(0, .ref 373)] [] v 0 0 Q
  refine ST.lift (fun _ _ k => T_aload_n (v := .ref 373) d_Mo_letterC_0 rfl (Or.inr ⟨_, rfl⟩) k) ?_
  refine ST.lift (fun _ _ k => T_ldc2 d_Mo_letterC_1 kJ_Mo_102 k) ?_
  refine S_virtual (as := [.long (22324837457735981)]) (rest := []) (b := 373) d_Mo_letterC_4 rfl (jw_Mo_letters.jo (by decide)) lm_Mo_104 ji_Mo_letters js_Mo_letters (w373 _) rfl rfl rfl (Nat.le_of_ble_eq_true rfl) (by decide) (by decide) (c_Mo_letters G v (22324837457735981) s es (by omega) hv) (fun r u1 hq => ?_)
  obtain ⟨hr, hv2, hm3, s4, hb_s4, es_u1⟩ := hq
  rw [hr]
  clear hr r
  have hm5 := hm.go hm3 (by intro i hi; simp only [List.mem_cons, List.not_mem_nil, or_false] at hi ⊢ <;> omega)
  show ST G mi_Mo_letterC 7 [(0, .ref 373)] [] u1 0 0 _
  refine ST.lift (fun _ _ k => T_aload_n (v := .ref 373) d_Mo_letterC_7 rfl (Or.inr ⟨_, rfl⟩) k) ?_
  refine ST.lift (fun _ _ k => T_iconst (v := nI 0) d_Mo_letterC_8 (by decide) k) ?_
  refine S_virtual (as := [.int (nI 0)]) (rest := []) (b := 373) d_Mo_letterC_9 rfl (jw_Mo_one.jo (by decide)) lm_Mo_11 ji_Mo_one js_Mo_one (w373 _) rfl rfl rfl (Nat.le_of_ble_eq_true rfl) (by decide) (by decide) (c_Mo_one G u1 (nI 0) s4 es_u1 (by omega) hv2) (fun r v' hq => ?_)
  rw [hq.1, hq.2]
  clear hq r v'
  show ST G mi_Mo_letterC 12 [(0, .ref 373)] [] (va_up u1 67 (nI (s4 + 1))) 0 0 _
  have hv7 := hv2.up (j := 67) (c := 4000) (k := (s4 + 1)) (by decide) (by omega)
  have hm8 := hm5.go (mdf.up (v := u1) (j := 67) (x := (nI (s4 + 1)))) (by intro i hi; simp only [List.mem_cons, List.not_mem_nil, or_false] at hi ⊢ <;> omega)
  have e_u6 : (va_up u1 67 (nI (s4 + 1))) 67 = (nI (s4 + 1)) := by simp [va_up]
  generalize va_up u1 67 (nI (s4 + 1)) = u6 at hv7 hm8 e_u6 ⊢
  refine ST.lift (fun _ _ k => T_aload_n (v := .ref 373) d_Mo_letterC_12 rfl (Or.inr ⟨_, rfl⟩) k) ?_
  refine ST.lift (fun _ _ k => T_ldc2 d_Mo_letterC_13 kJ_Mo_108 k) ?_
  refine S_virtual (as := [.long (3274795823647581556)]) (rest := []) (b := 373) d_Mo_letterC_16 rfl (jw_Mo_letters.jo (by decide)) lm_Mo_104 ji_Mo_letters js_Mo_letters (w373 _) rfl rfl rfl (Nat.le_of_ble_eq_true rfl) (by decide) (by decide) (c_Mo_letters G u6 (3274795823647581556) (s4 + 1) e_u6 (by omega) hv7) (fun r u9 hq => ?_)
  obtain ⟨hr, hv10, hm11, s12, hb_s12, es_u9⟩ := hq
  rw [hr]
  clear hr r
  have hm13 := hm8.go hm11 (by intro i hi; simp only [List.mem_cons, List.not_mem_nil, or_false] at hi ⊢ <;> omega)
  show ST G mi_Mo_letterC 19 [(0, .ref 373)] [] u9 0 0 _
  refine ST.lift (fun _ _ k => T_aload_n (v := .ref 373) d_Mo_letterC_19 rfl (Or.inr ⟨_, rfl⟩) k) ?_
  refine ST.lift (fun _ _ k => T_ldc2 d_Mo_letterC_20 kJ_Mo_110 k) ?_
  refine S_virtual (as := [.long (8389979834921341768)]) (rest := []) (b := 373) d_Mo_letterC_23 rfl (jw_Mo_letters.jo (by decide)) lm_Mo_104 ji_Mo_letters js_Mo_letters (w373 _) rfl rfl rfl (Nat.le_of_ble_eq_true rfl) (by decide) (by decide) (c_Mo_letters G u9 (8389979834921341768) s12 es_u9 (by omega) hv10) (fun r u14 hq => ?_)
  obtain ⟨hr, hv15, hm16, s17, hb_s17, es_u14⟩ := hq
  rw [hr]
  clear hr r
  have hm18 := hm13.go hm16 (by intro i hi; simp only [List.mem_cons, List.not_mem_nil, or_false] at hi ⊢ <;> omega)
  show ST G mi_Mo_letterC 26 [(0, .ref 373)] [] u14 0 0 _
  refine ST.lift (fun _ _ k => T_aload_n (v := .ref 373) d_Mo_letterC_26 rfl (Or.inr ⟨_, rfl⟩) k) ?_
  refine ST.lift (fun _ _ k => T_ldc2 d_Mo_letterC_27 kJ_Mo_112 k) ?_
  refine S_virtual (as := [.long (1094005042)]) (rest := []) (b := 373) d_Mo_letterC_30 rfl (jw_Mo_letters.jo (by decide)) lm_Mo_104 ji_Mo_letters js_Mo_letters (w373 _) rfl rfl rfl (Nat.le_of_ble_eq_true rfl) (by decide) (by decide) (c_Mo_letters G u14 (1094005042) s17 es_u14 (by omega) hv15) (fun r u19 hq => ?_)
  obtain ⟨hr, hv20, hm21, s22, hb_s22, es_u19⟩ := hq
  rw [hr]
  clear hr r
  have hm23 := hm18.go hm21 (by intro i hi; simp only [List.mem_cons, List.not_mem_nil, or_false] at hi ⊢ <;> omega)
  show ST G mi_Mo_letterC 33 [(0, .ref 373)] [] u19 0 0 _
  exact S_vret d_Mo_letterC_33 rfl (by decide) (by decide) (hQ _ s22 hv20 hm23 (by omega) es_u19)
set_option maxRecDepth 100000 in
set_option maxHeartbeats 4000000 in
theorem c_Mo_stretch (G : GX) (v : Nat → Int32) (src m : Nat) (w_src : K0 ≤ src) (a_src : aI src m) (l_src : m ≤ 4000) (n : Nat) (b_n : n ≤ m ∧ n ≤ 1000) (s : Nat) (es : v 67 = nI s) (hs : s ≤ 99) (hv : okv v) : CS G mi_Mo_stretch [.ref 373, .ref src, .int (nI n)] v (fun r v' => r = none ∧ okv v' ∧ mdf [67, 70] v v' ∧ v' 67 = nI 0) := by
  refine CS.of (by decide) (Nat.le_of_ble_eq_true rfl) ?_
  generalize hQe : (fun (r : Option Value) (v' : Nat → Int32) => r = none ∧ okv v' ∧ mdf [67, 70] v v' ∧ v' 67 = nI 0) = Q
  have hQ : ∀ (u : Nat → Int32) , okv u → mdf [67, 70] v u → u 67 = nI 0 → Q none u := by rw [← hQe]; exact fun u h1 h2 h3 => ⟨rfl, h1, h2, h3⟩
  clear hQe
  have hm : mdf [67, 70] v v := mdf.rf
  show ST G mi_Mo_stretch 0 [(0, .ref 373), (1, .ref src), (2, .int (nI n))] [] v 0 0 Q
  refine ST.lift (fun _ _ k => T_aload_n (v := .ref 373) d_Mo_stretch_0 rfl (Or.inr ⟨_, rfl⟩) k) ?_
  refine ST.lift (fun _ _ k => T_aload_n (v := .ref 373) d_Mo_stretch_1 rfl (Or.inr ⟨_, rfl⟩) k) ?_
  refine S_getfield d_Mo_stretch_2 fg_Mo_7 (w373 _) rfl ?_
  refine S_topi (y := nI s) (es) ?_
  refine S_virtual (as := [.int (nI s)]) (rest := []) (b := 373) d_Mo_stretch_5 rfl (jw_Mo_one.jo (by decide)) lm_Mo_11 ji_Mo_one js_Mo_one (w373 _) rfl rfl rfl (Nat.le_of_ble_eq_true rfl) (by decide) (by decide) (c_Mo_one G v (nI s) s es (by omega) hv) (fun r v' hq => ?_)
  rw [hq.1, hq.2]
  clear hq r v'
  show ST G mi_Mo_stretch 8 [(0, .ref 373), (1, .ref src), (2, .int (nI n))] [] (va_up v 67 (nI (s + 1))) 0 0 _
  have hv2 := hv.up (j := 67) (c := 4000) (k := (s + 1)) (by decide) (by omega)
  have hm3 := hm.go (mdf.up (v := v) (j := 67) (x := (nI (s + 1)))) (by intro i hi; simp only [List.mem_cons, List.not_mem_nil, or_false] at hi ⊢ <;> omega)
  have e_u1 : (va_up v 67 (nI (s + 1))) 67 = (nI (s + 1)) := by simp [va_up]
  generalize va_up v 67 (nI (s + 1)) = u1 at hv2 hm3 e_u1 ⊢
  refine ST.lift (fun _ _ k => T_aload_n (v := .ref 373) d_Mo_stretch_8 rfl (Or.inr ⟨_, rfl⟩) k) ?_
  refine ST.lift (fun _ _ k => T_aload_n (v := .ref 373) d_Mo_stretch_9 rfl (Or.inr ⟨_, rfl⟩) k) ?_
  refine S_getfield d_Mo_stretch_10 fg_Mo_7 (w373 _) rfl ?_
  refine S_topi (y := nI (s + 1)) (e_u1) ?_
  refine S_putfield (v' := va_up u1 70 (nI (s + 1))) d_Mo_stretch_13 (fp_Mo_114 _) (w373 _) (Nat.le_of_ble_eq_true rfl) ⟨rfl, rfl⟩ (u373_20 _ _) ?_
  have hv5 := hv2.up (j := 70) (c := 100) (k := (s + 1)) (by decide) (by omega)
  have hm6 := hm3.go (mdf.up (v := u1) (j := 70) (x := (nI (s + 1)))) (by intro i hi; simp only [List.mem_cons, List.not_mem_nil, or_false] at hi ⊢ <;> omega)
  have e_u4 : (va_up u1 70 (nI (s + 1))) 70 = (nI (s + 1)) := by simp [va_up]
  have e7 : (va_up u1 70 (nI (s + 1))) 67 = nI (s + 1) := by simp only [va_up]; exact e_u1
  generalize va_up u1 70 (nI (s + 1)) = u4 at hv5 hm6 e_u4 e7 ⊢
  refine ST.lift (fun _ _ k => T_iconst (v := nI 0) d_Mo_stretch_16 (by decide) k) ?_
  refine ST.lift (fun _ _ k => T_istore_n (L' := [(3, .int (nI 0)), (0, .ref 373), (1, .ref src), (2, .int (nI n))]) d_Mo_stretch_17 (by decide) rfl k) ?_
  have lp11 : ∀ (n9 k8 : Nat), (s + 1) - k8 = n9 → 0 ≤ k8 ∧ k8 ≤ 0 + (s + 1) → ST G mi_Mo_stretch 18 [(3, .int (nI k8)), (0, .ref 373), (1, .ref src), (2, .int (nI n))] [] u4 0 0 Q := by
    intro n9
    induction n9 using Nat.strongRecOn with
    | _ n9 ih10 =>
      intro k8 h12 h13
      refine ST.lift (fun _ _ k => T_iload_n d_Mo_stretch_18 rfl k) ?_
      refine ST.lift (fun _ _ k => T_aload_n (v := .ref 373) d_Mo_stretch_19 rfl (Or.inr ⟨_, rfl⟩) k) ?_
      refine S_getfield d_Mo_stretch_20 fg_Mo_7 (w373 _) rfl ?_
      refine S_topi (y := nI (s + 1)) (e7) ?_
      refine S_icmp_geN d_Mo_stretch_23 rfl (by omega) (by omega) (fun c14 => ?_) (fun c14 => ?_)
      · refine ST.lift (fun _ _ k => T_aload_n (v := .ref 373) d_Mo_stretch_44 rfl (Or.inr ⟨_, rfl⟩) k) ?_
        refine ST.lift (fun _ _ k => T_iconst (v := nI 0) d_Mo_stretch_45 (by decide) k) ?_
        refine S_putfield (v' := va_up u4 67 (nI 0)) d_Mo_stretch_46 (fp_Mo_7 _) (w373 _) (Nat.le_of_ble_eq_true rfl) ⟨rfl, rfl⟩ (u373_2 _ _) ?_
        have hv17 := hv5.up (j := 67) (c := 4000) (k := 0) (by decide) (by omega)
        have hm18 := hm6.go (mdf.up (v := u4) (j := 67) (x := (nI 0))) (by intro i hi; simp only [List.mem_cons, List.not_mem_nil, or_false] at hi ⊢ <;> omega)
        have e_u16 : (va_up u4 67 (nI 0)) 67 = (nI 0) := by simp [va_up]
        have e19 : (va_up u4 67 (nI 0)) 70 = nI (s + 1) := by simp only [va_up]; exact e_u4
        generalize va_up u4 67 (nI 0) = u16 at hv17 hm18 e_u16 e19 ⊢
        refine ST.lift (fun _ _ k => T_iconst (v := nI 0) d_Mo_stretch_49 (by decide) k) ?_
        refine ST.lift (fun _ _ k => T_istore_n (L' := [(3, .int (nI 0)), (0, .ref 373), (1, .ref src), (2, .int (nI n))]) d_Mo_stretch_50 (by decide) rfl k) ?_
        have lp24 : ∀ (n22 k20 : Nat) (u21 : Nat → Int32) (hv_u21 : okv u21) (hm_u21 : mdf [67, 70] v u21) (es_u21 : u21 67 = nI (0 + k20)), 128 - k20 = n22 → 0 ≤ k20 ∧ k20 ≤ 0 + 128 → ST G mi_Mo_stretch 51 [(3, .int (nI k20)), (0, .ref 373), (1, .ref src), (2, .int (nI n))] [] u21 0 0 Q := by
          intro n22
          induction n22 using Nat.strongRecOn with
          | _ n22 ih23 =>
            intro k20 u21 hv_u21 hm_u21 es_u21 h25 h26
            refine ST.lift (fun _ _ k => T_iload_n d_Mo_stretch_51 rfl k) ?_
            refine ST.lift (fun _ _ k => T_sipush (v := nI 128) d_Mo_stretch_52 (by decide) k) ?_
            refine S_icmp_geN d_Mo_stretch_55 rfl (by omega) (by omega) (fun c27 => ?_) (fun c27 => ?_)
            · refine ST.lift (fun _ _ k => T_aload_n (v := .ref 373) d_Mo_stretch_69 rfl (Or.inr ⟨_, rfl⟩) k) ?_
              refine ST.lift (fun _ _ k => T_aload_n (v := .ref src) d_Mo_stretch_70 rfl (Or.inr ⟨_, rfl⟩) k) ?_
              refine ST.lift (fun _ _ k => T_iconst (v := nI 0) d_Mo_stretch_71 (by decide) k) ?_
              refine ST.lift (fun _ _ k => T_iload_n d_Mo_stretch_72 rfl k) ?_
              refine S_virtual (as := [.ref src, .int (nI 0), .int (nI n)]) (rest := []) (b := 373) d_Mo_stretch_73 rfl (jw_Mo_bytes.jo (by decide)) lm_Mo_76 ji_Mo_bytes js_Mo_bytes (w373 _) rfl rfl rfl (Nat.le_of_ble_eq_true rfl) (by decide) (by decide) (c_Mo_bytes G u21 src m w_src a_src (by omega) 0 (by omega) n (by omega) (0 + k20) es_u21 (by omega) hv_u21) (fun r u31 hq => ?_)
              obtain ⟨hr, hv32, hm33, s34, hb_s34, es_u31⟩ := hq
              rw [hr]
              clear hr r
              have hm35 := hm_u21.go hm33 (by intro i hi; simp only [List.mem_cons, List.not_mem_nil, or_false] at hi ⊢ <;> omega)
              show ST G mi_Mo_stretch 76 [(3, .int (nI k20)), (0, .ref 373), (1, .ref src), (2, .int (nI n))] [] u31 0 0 _
              refine ST.lift (fun _ _ k => T_aload_n (v := .ref 373) d_Mo_stretch_76 rfl (Or.inr ⟨_, rfl⟩) k) ?_
              refine ST.lift (fun _ _ k => T_bipush (v := nI 64) d_Mo_stretch_77 (by decide) k) ?_
              refine ST.lift (fun _ _ k => T_iconst (v := nI 2) d_Mo_stretch_79 (by decide) k) ?_
              refine S_virtual (as := [.int (nI 64), .int (nI 2)]) (rest := []) (b := 373) d_Mo_stretch_80 rfl (jw_Mo_number.jo (by decide)) lm_Mo_120 ji_Mo_number js_Mo_number (w373 _) rfl rfl rfl (Nat.le_of_ble_eq_true rfl) (by decide) (by decide) (c_Mo_number_2 G u31 (nI 64) s34 es_u31 (by omega) hv32) (fun r u36 hq => ?_)
              obtain ⟨hr, hv37, hm38, s39, hb_s39, es_u36⟩ := hq
              rw [hr]
              clear hr r
              have hm40 := hm35.go hm38 (by intro i hi; simp only [List.mem_cons, List.not_mem_nil, or_false] at hi ⊢ <;> omega)
              show ST G mi_Mo_stretch 83 [(3, .int (nI k20)), (0, .ref 373), (1, .ref src), (2, .int (nI n))] [] u36 0 0 _
              refine ST.lift (fun _ _ k => T_aload_n (v := .ref 373) d_Mo_stretch_83 rfl (Or.inr ⟨_, rfl⟩) k) ?_
              refine ST.lift (fun _ _ k => T_iconst (v := nI 0) d_Mo_stretch_84 (by decide) k) ?_
              refine S_virtual (as := [.int (nI 0)]) (rest := []) (b := 373) d_Mo_stretch_85 rfl (jw_Mo_one.jo (by decide)) lm_Mo_11 ji_Mo_one js_Mo_one (w373 _) rfl rfl rfl (Nat.le_of_ble_eq_true rfl) (by decide) (by decide) (c_Mo_one G u36 (nI 0) s39 es_u36 (by omega) hv37) (fun r v' hq => ?_)
              rw [hq.1, hq.2]
              clear hq r v'
              show ST G mi_Mo_stretch 88 [(3, .int (nI k20)), (0, .ref 373), (1, .ref src), (2, .int (nI n))] [] (va_up u36 67 (nI (s39 + 1))) 0 0 _
              have hv42 := hv37.up (j := 67) (c := 4000) (k := (s39 + 1)) (by decide) (by omega)
              have hm43 := hm40.go (mdf.up (v := u36) (j := 67) (x := (nI (s39 + 1)))) (by intro i hi; simp only [List.mem_cons, List.not_mem_nil, or_false] at hi ⊢ <;> omega)
              have e_u41 : (va_up u36 67 (nI (s39 + 1))) 67 = (nI (s39 + 1)) := by simp [va_up]
              generalize va_up u36 67 (nI (s39 + 1)) = u41 at hv42 hm43 e_u41 ⊢
              refine ST.lift (fun _ _ k => T_aload_n (v := .ref 373) d_Mo_stretch_88 rfl (Or.inr ⟨_, rfl⟩) k) ?_
              refine ST.lift (fun _ _ k => T_aload_n (v := .ref 373) d_Mo_stretch_89 rfl (Or.inr ⟨_, rfl⟩) k) ?_
              refine S_getfield d_Mo_stretch_90 fg_Mo_117 (w373 _) rfl ?_
              refine ST.lift (fun _ _ k => T_iconst (v := nI 0) d_Mo_stretch_93 (by decide) k) ?_
              refine ST.lift (fun _ _ k => T_aload_n (v := .ref 373) d_Mo_stretch_94 rfl (Or.inr ⟨_, rfl⟩) k) ?_
              obtain ⟨k44, hk44, ek44⟩ := hv42.get (j := 70) (c := 100) (by decide)
              refine S_getfield d_Mo_stretch_95 fg_Mo_114 (w373 _) rfl ?_
              refine S_topi (y := nI k44) (ek44) ?_
              refine S_virtual (as := [.ref 389, .int (nI 0), .int (nI k44)]) (rest := []) (b := 373) d_Mo_stretch_98 rfl (jw_Mo_bytes.jo (by decide)) lm_Mo_76 ji_Mo_bytes js_Mo_bytes (w373 _) rfl rfl rfl (Nat.le_of_ble_eq_true rfl) (by decide) (by decide) (c_Mo_bytes G u41 389 100 (by decide) a389 (by omega) 0 (by omega) k44 (by omega) (s39 + 1) e_u41 (by omega) hv42) (fun r u45 hq => ?_)
              obtain ⟨hr, hv46, hm47, s48, hb_s48, es_u45⟩ := hq
              rw [hr]
              clear hr r
              have hm49 := hm43.go hm47 (by intro i hi; simp only [List.mem_cons, List.not_mem_nil, or_false] at hi ⊢ <;> omega)
              have e50 : u45 70 = nI k44 := (hm47 70 (by decide)).trans ek44
              show ST G mi_Mo_stretch 101 [(3, .int (nI k20)), (0, .ref 373), (1, .ref src), (2, .int (nI n))] [] u45 0 0 _
              refine ST.lift (fun _ _ k => T_aload_n (v := .ref 373) d_Mo_stretch_101 rfl (Or.inr ⟨_, rfl⟩) k) ?_
              refine S_virtual (as := []) (rest := []) (b := 373) d_Mo_stretch_102 rfl (jw_Mo_hash0.jo (by decide)) lm_Mo_80 ji_Mo_hash0 js_Mo_hash0 (w373 _) rfl rfl rfl (Nat.le_of_ble_eq_true rfl) (by decide) (by decide) (c_Mo_hash0 G u45 s48 es_u45 (by omega) hv46) (fun r u51 hq => ?_)
              obtain ⟨hr, hv52, hm53, es_u51⟩ := hq
              rw [hr]
              clear hr r
              have hm55 := hm49.go hm53 (by intro i hi; simp only [List.mem_cons, List.not_mem_nil, or_false] at hi ⊢ <;> omega)
              have e56 : u51 70 = nI k44 := (hm53 70 (by decide)).trans e50
              show ST G mi_Mo_stretch 105 [(3, .int (nI k20)), (0, .ref 373), (1, .ref src), (2, .int (nI n))] [] u51 0 0 _
              refine ST.lift (fun _ _ k => T_aload_n (v := .ref 373) d_Mo_stretch_105 rfl (Or.inr ⟨_, rfl⟩) k) ?_
              refine ST.lift (fun _ _ k => T_aload_n (v := .ref 373) d_Mo_stretch_106 rfl (Or.inr ⟨_, rfl⟩) k) ?_
              refine S_getfield d_Mo_stretch_107 fg_Mo_55 (w373 _) rfl ?_
              refine ST.lift (fun _ _ k => T_iconst (v := nI 0) d_Mo_stretch_110 (by decide) k) ?_
              refine ST.lift (fun _ _ k => T_bipush (v := nI 64) d_Mo_stretch_111 (by decide) k) ?_
              refine S_virtual (as := [.ref 383, .int (nI 0), .int (nI 64)]) (rest := []) (b := 373) d_Mo_stretch_113 rfl (jw_Mo_bytes.jo (by decide)) lm_Mo_76 ji_Mo_bytes js_Mo_bytes (w373 _) rfl rfl rfl (Nat.le_of_ble_eq_true rfl) (by decide) (by decide) (c_Mo_bytes G u51 383 64 (by decide) a383 (by omega) 0 (by omega) 64 (by omega) 0 es_u51 (by omega) hv52) (fun r u57 hq => ?_)
              obtain ⟨hr, hv58, hm59, s60, hb_s60, es_u57⟩ := hq
              rw [hr]
              clear hr r
              have hm61 := hm55.go hm59 (by intro i hi; simp only [List.mem_cons, List.not_mem_nil, or_false] at hi ⊢ <;> omega)
              have e62 : u57 70 = nI k44 := (hm59 70 (by decide)).trans e56
              show ST G mi_Mo_stretch 116 [(3, .int (nI k20)), (0, .ref 373), (1, .ref src), (2, .int (nI n))] [] u57 0 0 _
              refine ST.lift (fun _ _ k => T_aload_n (v := .ref 373) d_Mo_stretch_116 rfl (Or.inr ⟨_, rfl⟩) k) ?_
              refine ST.lift (fun _ _ k => T_iconst (v := nI 1) d_Mo_stretch_117 (by decide) k) ?_
              refine S_virtual (as := [.int (nI 1)]) (rest := []) (b := 373) d_Mo_stretch_118 rfl (jw_Mo_one.jo (by decide)) lm_Mo_11 ji_Mo_one js_Mo_one (w373 _) rfl rfl rfl (Nat.le_of_ble_eq_true rfl) (by decide) (by decide) (c_Mo_one G u57 (nI 1) s60 es_u57 (by omega) hv58) (fun r v' hq => ?_)
              rw [hq.1, hq.2]
              clear hq r v'
              show ST G mi_Mo_stretch 121 [(3, .int (nI k20)), (0, .ref 373), (1, .ref src), (2, .int (nI n))] [] (va_up u57 67 (nI (s60 + 1))) 0 0 _
              have hv64 := hv58.up (j := 67) (c := 4000) (k := (s60 + 1)) (by decide) (by omega)
              have hm65 := hm61.go (mdf.up (v := u57) (j := 67) (x := (nI (s60 + 1)))) (by intro i hi; simp only [List.mem_cons, List.not_mem_nil, or_false] at hi ⊢ <;> omega)
              have e_u63 : (va_up u57 67 (nI (s60 + 1))) 67 = (nI (s60 + 1)) := by simp [va_up]
              have e66 : (va_up u57 67 (nI (s60 + 1))) 70 = nI k44 := by simp only [va_up]; exact e62
              generalize va_up u57 67 (nI (s60 + 1)) = u63 at hv64 hm65 e_u63 e66 ⊢
              refine ST.lift (fun _ _ k => T_aload_n (v := .ref 373) d_Mo_stretch_121 rfl (Or.inr ⟨_, rfl⟩) k) ?_
              refine ST.lift (fun _ _ k => T_aload_n (v := .ref 373) d_Mo_stretch_122 rfl (Or.inr ⟨_, rfl⟩) k) ?_
              refine S_getfield d_Mo_stretch_123 fg_Mo_117 (w373 _) rfl ?_
              refine ST.lift (fun _ _ k => T_iconst (v := nI 0) d_Mo_stretch_126 (by decide) k) ?_
              refine ST.lift (fun _ _ k => T_aload_n (v := .ref 373) d_Mo_stretch_127 rfl (Or.inr ⟨_, rfl⟩) k) ?_
              refine S_getfield d_Mo_stretch_128 fg_Mo_114 (w373 _) rfl ?_
              refine S_topi (y := nI k44) (e66) ?_
              refine S_virtual (as := [.ref 389, .int (nI 0), .int (nI k44)]) (rest := []) (b := 373) d_Mo_stretch_131 rfl (jw_Mo_bytes.jo (by decide)) lm_Mo_76 ji_Mo_bytes js_Mo_bytes (w373 _) rfl rfl rfl (Nat.le_of_ble_eq_true rfl) (by decide) (by decide) (c_Mo_bytes G u63 389 100 (by decide) a389 (by omega) 0 (by omega) k44 (by omega) (s60 + 1) e_u63 (by omega) hv64) (fun r u67 hq => ?_)
              obtain ⟨hr, hv68, hm69, s70, hb_s70, es_u67⟩ := hq
              rw [hr]
              clear hr r
              have hm71 := hm65.go hm69 (by intro i hi; simp only [List.mem_cons, List.not_mem_nil, or_false] at hi ⊢ <;> omega)
              have e72 : u67 70 = nI k44 := (hm69 70 (by decide)).trans e66
              show ST G mi_Mo_stretch 134 [(3, .int (nI k20)), (0, .ref 373), (1, .ref src), (2, .int (nI n))] [] u67 0 0 _
              refine ST.lift (fun _ _ k => T_aload_n (v := .ref 373) d_Mo_stretch_134 rfl (Or.inr ⟨_, rfl⟩) k) ?_
              refine S_virtual (as := []) (rest := []) (b := 373) d_Mo_stretch_135 rfl (jw_Mo_hash0.jo (by decide)) lm_Mo_80 ji_Mo_hash0 js_Mo_hash0 (w373 _) rfl rfl rfl (Nat.le_of_ble_eq_true rfl) (by decide) (by decide) (c_Mo_hash0 G u67 s70 es_u67 (by omega) hv68) (fun r u73 hq => ?_)
              obtain ⟨hr, hv74, hm75, es_u73⟩ := hq
              rw [hr]
              clear hr r
              have hm77 := hm71.go hm75 (by intro i hi; simp only [List.mem_cons, List.not_mem_nil, or_false] at hi ⊢ <;> omega)
              have e78 : u73 70 = nI k44 := (hm75 70 (by decide)).trans e72
              show ST G mi_Mo_stretch 138 [(3, .int (nI k20)), (0, .ref 373), (1, .ref src), (2, .int (nI n))] [] u73 0 0 _
              exact S_vret d_Mo_stretch_138 rfl (by decide) (by decide) (hQ _ hv74 hm77 (es_u73.trans (congrArg nI (by omega))))
            · refine ST.lift (fun _ _ k => T_aload_n (v := .ref 373) d_Mo_stretch_58 rfl (Or.inr ⟨_, rfl⟩) k) ?_
              refine ST.lift (fun _ _ k => T_iconst (v := nI 0) d_Mo_stretch_59 (by decide) k) ?_
              refine S_virtual (as := [.int (nI 0)]) (rest := []) (b := 373) d_Mo_stretch_60 rfl (jw_Mo_one.jo (by decide)) lm_Mo_11 ji_Mo_one js_Mo_one (w373 _) rfl rfl rfl (Nat.le_of_ble_eq_true rfl) (by decide) (by decide) (c_Mo_one G u21 (nI 0) (0 + k20) es_u21 (by omega) hv_u21) (fun r v' hq => ?_)
              rw [hq.1, hq.2]
              clear hq r v'
              show ST G mi_Mo_stretch 63 [(3, .int (nI k20)), (0, .ref 373), (1, .ref src), (2, .int (nI n))] [] (va_up u21 67 (nI ((0 + k20) + 1))) 0 0 _
              have hv80 := hv_u21.up (j := 67) (c := 4000) (k := ((0 + k20) + 1)) (by decide) (by omega)
              have hm81 := hm_u21.go (mdf.up (v := u21) (j := 67) (x := (nI ((0 + k20) + 1)))) (by intro i hi; simp only [List.mem_cons, List.not_mem_nil, or_false] at hi ⊢ <;> omega)
              have e_u79 : (va_up u21 67 (nI ((0 + k20) + 1))) 67 = (nI ((0 + k20) + 1)) := by simp [va_up]
              generalize va_up u21 67 (nI ((0 + k20) + 1)) = u79 at hv80 hm81 e_u79 ⊢
              refine S_iincN (a := k20) (b := 1) (L' := [(3, .int (nI (k20 + 1))), (0, .ref 373), (1, .ref src), (2, .int (nI n))]) d_Mo_stretch_63 (by decide) rfl rfl rfl ?_
              refine ST.lift (fun _ _ k => T_goto (tgt := 51) d_Mo_stretch_66 rfl k) ?_
              exact ih23 (128 - (k20 + 1)) (by omega) (k20 + 1)  u79 hv80 hm81 (e_u79.trans (congrArg nI (by omega))) rfl (by omega)
        exact lp24 _ 0  u16 hv17 hm18 (e_u16.trans (congrArg nI (by omega))) rfl (by omega)
      · refine ST.lift (fun _ _ k => T_aload_n (v := .ref 373) d_Mo_stretch_26 rfl (Or.inr ⟨_, rfl⟩) k) ?_
        refine S_getfield d_Mo_stretch_27 fg_Mo_117 (w373 _) rfl ?_
        refine ST.lift (fun _ _ k => T_iload_n d_Mo_stretch_30 rfl k) ?_
        refine ST.lift (fun _ _ k => T_aload_n (v := .ref 373) d_Mo_stretch_31 rfl (Or.inr ⟨_, rfl⟩) k) ?_
        refine S_getfield d_Mo_stretch_32 fg_Mo_1 (w373 _) rfl ?_
        refine ST.lift (fun _ _ k => T_iload_n d_Mo_stretch_35 rfl k) ?_
        refine S_iaload d_Mo_stretch_36 a374 (vp_in_nI (by omega) (by omega)) (fun z82 => ?_)
        refine S_iastore d_Mo_stretch_37 (by decide) a389 (vp_in_nI (by omega) (by omega)) ?_
        refine S_iincN (a := k8) (b := 1) (L' := [(3, .int (nI (k8 + 1))), (0, .ref 373), (1, .ref src), (2, .int (nI n))]) d_Mo_stretch_38 (by decide) rfl rfl rfl ?_
        refine ST.lift (fun _ _ k => T_goto (tgt := 18) d_Mo_stretch_41 rfl k) ?_
        exact ih10 ((s + 1) - (k8 + 1)) (by omega) (k8 + 1)  rfl (by omega)
  exact lp11 _ 0  rfl (by omega)
set_option maxRecDepth 100000 in
set_option maxHeartbeats 4000000 in
theorem c_Mo_keyOf_0 (G : GX) (v : Nat → Int32) (src m : Nat) (w_src : K0 ≤ src) (a_src : aI src m) (l_src : m ≤ 4000) (pos : Nat) (b_pos : pos ≤ 1000) (s : Nat) (es : v 67 = nI s) (hs : s ≤ 100) (hp : pos + 32 ≤ m) (hv : okv v) : CS G mi_Mo_keyOf [.ref 373, .ref src, .int (nI pos), .int (nI 32), .int (nI 0)] v (fun r v' => r = none ∧ okv v' ∧ mdf [67, 70] v v' ∧ v' 67 = nI 0) := by
  refine CS.of (by decide) (Nat.le_of_ble_eq_true rfl) ?_
  generalize hQe : (fun (r : Option Value) (v' : Nat → Int32) => r = none ∧ okv v' ∧ mdf [67, 70] v v' ∧ v' 67 = nI 0) = Q
  have hQ : ∀ (u : Nat → Int32) , okv u → mdf [67, 70] v u → u 67 = nI 0 → Q none u := by rw [← hQe]; exact fun u h1 h2 h3 => ⟨rfl, h1, h2, h3⟩
  clear hQe
  have hm : mdf [67, 70] v v := mdf.rf
  show ST G mi_Mo_keyOf 0 [(0, .ref 373), (1, .ref src), (2, .int (nI pos)), (3, .int (nI 32)), (4, .int (nI 0))] [] v 0 0 Q
  refine ST.lift (fun _ _ k => T_aload_n (v := .ref 373) d_Mo_keyOf_0 rfl (Or.inr ⟨_, rfl⟩) k) ?_
  refine ST.lift (fun _ _ k => T_aload_n (v := .ref src) d_Mo_keyOf_1 rfl (Or.inr ⟨_, rfl⟩) k) ?_
  refine ST.lift (fun _ _ k => T_iload_n d_Mo_keyOf_2 rfl k) ?_
  refine ST.lift (fun _ _ k => T_iload_n d_Mo_keyOf_3 rfl k) ?_
  refine S_virtual (as := [.ref src, .int (nI pos), .int (nI 32)]) (rest := []) (b := 373) d_Mo_keyOf_4 rfl (jw_Mo_bytes.jo (by decide)) lm_Mo_76 ji_Mo_bytes js_Mo_bytes (w373 _) rfl rfl rfl (Nat.le_of_ble_eq_true rfl) (by decide) (by decide) (c_Mo_bytes G v src m w_src a_src (by omega) pos (by omega) 32 (by omega) s es (by omega) hv) (fun r u1 hq => ?_)
  obtain ⟨hr, hv2, hm3, s4, hb_s4, es_u1⟩ := hq
  rw [hr]
  clear hr r
  have hm5 := hm.go hm3 (by intro i hi; simp only [List.mem_cons, List.not_mem_nil, or_false] at hi ⊢ <;> omega)
  show ST G mi_Mo_keyOf 7 [(0, .ref 373), (1, .ref src), (2, .int (nI pos)), (3, .int (nI 32)), (4, .int (nI 0))] [] u1 0 0 _
  refine ST.lift (fun _ _ k => T_iload d_Mo_keyOf_7 rfl k) ?_
  refine S_if_neN d_Mo_keyOf_9 rfl (by omega) (fun c => by first | exact absurd c (by omega) | exact c.elim | exact absurd c (by decide) | exact absurd (by assumption) c | exact absurd c (by assumption)) (fun _ => ?_)
  refine ST.lift (fun _ _ k => T_aload_n (v := .ref 373) d_Mo_keyOf_12 rfl (Or.inr ⟨_, rfl⟩) k) ?_
  refine ST.lift (fun _ _ k => T_bipush (v := nI 20) d_Mo_keyOf_13 (by decide) k) ?_
  refine ST.lift (fun _ _ k => T_iconst (v := nI 2) d_Mo_keyOf_15 (by decide) k) ?_
  refine S_virtual (as := [.int (nI 20), .int (nI 2)]) (rest := []) (b := 373) d_Mo_keyOf_16 rfl (jw_Mo_number.jo (by decide)) lm_Mo_120 ji_Mo_number js_Mo_number (w373 _) rfl rfl rfl (Nat.le_of_ble_eq_true rfl) (by decide) (by decide) (c_Mo_number_2 G u1 (nI 20) s4 es_u1 (by omega) hv2) (fun r u6 hq => ?_)
  obtain ⟨hr, hv7, hm8, s9, hb_s9, es_u6⟩ := hq
  rw [hr]
  clear hr r
  have hm10 := hm5.go hm8 (by intro i hi; simp only [List.mem_cons, List.not_mem_nil, or_false] at hi ⊢ <;> omega)
  show ST G mi_Mo_keyOf 19 [(0, .ref 373), (1, .ref src), (2, .int (nI pos)), (3, .int (nI 32)), (4, .int (nI 0))] [] u6 0 0 _
  refine ST.lift (fun _ _ k => T_aload_n (v := .ref 373) d_Mo_keyOf_19 rfl (Or.inr ⟨_, rfl⟩) k) ?_
  refine ST.lift (fun _ _ k => T_ldc2 d_Mo_keyOf_20 kJ_Mo_266 k) ?_
  refine S_virtual (as := [.long (5715139744711912772)]) (rest := []) (b := 373) d_Mo_keyOf_23 rfl (jw_Mo_letters.jo (by decide)) lm_Mo_104 ji_Mo_letters js_Mo_letters (w373 _) rfl rfl rfl (Nat.le_of_ble_eq_true rfl) (by decide) (by decide) (c_Mo_letters G u6 (5715139744711912772) s9 es_u6 (by omega) hv7) (fun r u11 hq => ?_)
  obtain ⟨hr, hv12, hm13, s14, hb_s14, es_u11⟩ := hq
  rw [hr]
  clear hr r
  have hm15 := hm10.go hm13 (by intro i hi; simp only [List.mem_cons, List.not_mem_nil, or_false] at hi ⊢ <;> omega)
  show ST G mi_Mo_keyOf 26 [(0, .ref 373), (1, .ref src), (2, .int (nI pos)), (3, .int (nI 32)), (4, .int (nI 0))] [] u11 0 0 _
  refine ST.lift (fun _ _ k => T_aload_n (v := .ref 373) d_Mo_keyOf_26 rfl (Or.inr ⟨_, rfl⟩) k) ?_
  refine ST.lift (fun _ _ k => T_ldc2 d_Mo_keyOf_27 kJ_Mo_268 k) ?_
  refine S_virtual (as := [.long (7310021102402233721)]) (rest := []) (b := 373) d_Mo_keyOf_30 rfl (jw_Mo_letters.jo (by decide)) lm_Mo_104 ji_Mo_letters js_Mo_letters (w373 _) rfl rfl rfl (Nat.le_of_ble_eq_true rfl) (by decide) (by decide) (c_Mo_letters G u11 (7310021102402233721) s14 es_u11 (by omega) hv12) (fun r u16 hq => ?_)
  obtain ⟨hr, hv17, hm18, s19, hb_s19, es_u16⟩ := hq
  rw [hr]
  clear hr r
  have hm20 := hm15.go hm18 (by intro i hi; simp only [List.mem_cons, List.not_mem_nil, or_false] at hi ⊢ <;> omega)
  show ST G mi_Mo_keyOf 33 [(0, .ref 373), (1, .ref src), (2, .int (nI pos)), (3, .int (nI 32)), (4, .int (nI 0))] [] u16 0 0 _
  refine ST.lift (fun _ _ k => T_aload_n (v := .ref 373) d_Mo_keyOf_33 rfl (Or.inr ⟨_, rfl⟩) k) ?_
  refine ST.lift (fun _ _ k => T_ldc2 d_Mo_keyOf_34 kJ_Mo_270 k) ?_
  refine S_virtual (as := [.long (1348561266)]) (rest := []) (b := 373) d_Mo_keyOf_37 rfl (jw_Mo_letters.jo (by decide)) lm_Mo_104 ji_Mo_letters js_Mo_letters (w373 _) rfl rfl rfl (Nat.le_of_ble_eq_true rfl) (by decide) (by decide) (c_Mo_letters G u16 (1348561266) s19 es_u16 (by omega) hv17) (fun r u21 hq => ?_)
  obtain ⟨hr, hv22, hm23, s24, hb_s24, es_u21⟩ := hq
  rw [hr]
  clear hr r
  have hm25 := hm20.go hm23 (by intro i hi; simp only [List.mem_cons, List.not_mem_nil, or_false] at hi ⊢ <;> omega)
  show ST G mi_Mo_keyOf 40 [(0, .ref 373), (1, .ref src), (2, .int (nI pos)), (3, .int (nI 32)), (4, .int (nI 0))] [] u21 0 0 _
  refine ST.lift (fun _ _ k => T_goto (tgt := 85) d_Mo_keyOf_40 rfl k) ?_
  refine ST.lift (fun _ _ k => T_aload_n (v := .ref 373) d_Mo_keyOf_85 rfl (Or.inr ⟨_, rfl⟩) k) ?_
  refine ST.lift (fun _ _ k => T_iconst (v := nI 0) d_Mo_keyOf_86 (by decide) k) ?_
  refine S_virtual (as := [.int (nI 0)]) (rest := []) (b := 373) d_Mo_keyOf_87 rfl (jw_Mo_one.jo (by decide)) lm_Mo_11 ji_Mo_one js_Mo_one (w373 _) rfl rfl rfl (Nat.le_of_ble_eq_true rfl) (by decide) (by decide) (c_Mo_one G u21 (nI 0) s24 es_u21 (by omega) hv22) (fun r v' hq => ?_)
  rw [hq.1, hq.2]
  clear hq r v'
  show ST G mi_Mo_keyOf 90 [(0, .ref 373), (1, .ref src), (2, .int (nI pos)), (3, .int (nI 32)), (4, .int (nI 0))] [] (va_up u21 67 (nI (s24 + 1))) 0 0 _
  have hv27 := hv22.up (j := 67) (c := 4000) (k := (s24 + 1)) (by decide) (by omega)
  have hm28 := hm25.go (mdf.up (v := u21) (j := 67) (x := (nI (s24 + 1)))) (by intro i hi; simp only [List.mem_cons, List.not_mem_nil, or_false] at hi ⊢ <;> omega)
  have e_u26 : (va_up u21 67 (nI (s24 + 1))) 67 = (nI (s24 + 1)) := by simp [va_up]
  generalize va_up u21 67 (nI (s24 + 1)) = u26 at hv27 hm28 e_u26 ⊢
  refine ST.lift (fun _ _ k => T_aload_n (v := .ref 373) d_Mo_keyOf_90 rfl (Or.inr ⟨_, rfl⟩) k) ?_
  refine S_getfield d_Mo_keyOf_91 fg_Mo_7 (w373 _) rfl ?_
  refine S_topi (y := nI (s24 + 1)) (e_u26) ?_
  refine ST.lift (fun _ _ k => T_istore (L' := [(5, .int (nI (s24 + 1))), (0, .ref 373), (1, .ref src), (2, .int (nI pos)), (3, .int (nI 32)), (4, .int (nI 0))]) d_Mo_keyOf_94 (by decide) rfl k) ?_
  refine ST.lift (fun _ _ k => T_iconst (v := nI 0) d_Mo_keyOf_96 (by decide) k) ?_
  refine ST.lift (fun _ _ k => T_istore (L' := [(6, .int (nI 0)), (5, .int (nI (s24 + 1))), (0, .ref 373), (1, .ref src), (2, .int (nI pos)), (3, .int (nI 32)), (4, .int (nI 0))]) d_Mo_keyOf_97 (by decide) rfl k) ?_
  have lp32 : ∀ (n30 k29 : Nat), (s24 + 1) - k29 = n30 → 0 ≤ k29 ∧ k29 ≤ 0 + (s24 + 1) → ST G mi_Mo_keyOf 99 [(6, .int (nI k29)), (5, .int (nI (s24 + 1))), (0, .ref 373), (1, .ref src), (2, .int (nI pos)), (3, .int (nI 32)), (4, .int (nI 0))] [] u26 0 0 Q := by
    intro n30
    induction n30 using Nat.strongRecOn with
    | _ n30 ih31 =>
      intro k29 h33 h34
      refine ST.lift (fun _ _ k => T_iload d_Mo_keyOf_99 rfl k) ?_
      refine ST.lift (fun _ _ k => T_iload d_Mo_keyOf_101 rfl k) ?_
      refine S_icmp_geN d_Mo_keyOf_103 rfl (by omega) (by omega) (fun c35 => ?_) (fun c35 => ?_)
      · refine ST.lift (fun _ _ k => T_aload_n (v := .ref 373) d_Mo_keyOf_126 rfl (Or.inr ⟨_, rfl⟩) k) ?_
        refine ST.lift (fun _ _ k => T_iconst (v := nI 0) d_Mo_keyOf_127 (by decide) k) ?_
        refine S_putfield (v' := va_up u26 67 (nI 0)) d_Mo_keyOf_128 (fp_Mo_7 _) (w373 _) (Nat.le_of_ble_eq_true rfl) ⟨rfl, rfl⟩ (u373_2 _ _) ?_
        have hv38 := hv27.up (j := 67) (c := 4000) (k := 0) (by decide) (by omega)
        have hm39 := hm28.go (mdf.up (v := u26) (j := 67) (x := (nI 0))) (by intro i hi; simp only [List.mem_cons, List.not_mem_nil, or_false] at hi ⊢ <;> omega)
        have e_u37 : (va_up u26 67 (nI 0)) 67 = (nI 0) := by simp [va_up]
        generalize va_up u26 67 (nI 0) = u37 at hv38 hm39 e_u37 ⊢
        refine ST.lift (fun _ _ k => T_aload_n (v := .ref 373) d_Mo_keyOf_131 rfl (Or.inr ⟨_, rfl⟩) k) ?_
        refine ST.lift (fun _ _ k => T_ldc2 d_Mo_keyOf_132 kJ_Mo_283 k) ?_
        refine S_virtual (as := [.long (4928471164510358373)]) (rest := []) (b := 373) d_Mo_keyOf_135 rfl (jw_Mo_letters.jo (by decide)) lm_Mo_104 ji_Mo_letters js_Mo_letters (w373 _) rfl rfl rfl (Nat.le_of_ble_eq_true rfl) (by decide) (by decide) (c_Mo_letters G u37 (4928471164510358373) 0 e_u37 (by omega) hv38) (fun r u40 hq => ?_)
        obtain ⟨hr, hv41, hm42, s43, hb_s43, es_u40⟩ := hq
        rw [hr]
        clear hr r
        have hm44 := hm39.go hm42 (by intro i hi; simp only [List.mem_cons, List.not_mem_nil, or_false] at hi ⊢ <;> omega)
        show ST G mi_Mo_keyOf 138 [(6, .int (nI k29)), (5, .int (nI (s24 + 1))), (0, .ref 373), (1, .ref src), (2, .int (nI pos)), (3, .int (nI 32)), (4, .int (nI 0))] [] u40 0 0 _
        refine ST.lift (fun _ _ k => T_aload_n (v := .ref 373) d_Mo_keyOf_138 rfl (Or.inr ⟨_, rfl⟩) k) ?_
        refine ST.lift (fun _ _ k => T_ldc2 d_Mo_keyOf_139 kJ_Mo_285 k) ?_
        refine S_virtual (as := [.long (521039604082)]) (rest := []) (b := 373) d_Mo_keyOf_142 rfl (jw_Mo_letters.jo (by decide)) lm_Mo_104 ji_Mo_letters js_Mo_letters (w373 _) rfl rfl rfl (Nat.le_of_ble_eq_true rfl) (by decide) (by decide) (c_Mo_letters G u40 (521039604082) s43 es_u40 (by omega) hv41) (fun r u45 hq => ?_)
        obtain ⟨hr, hv46, hm47, s48, hb_s48, es_u45⟩ := hq
        rw [hr]
        clear hr r
        have hm49 := hm44.go hm47 (by intro i hi; simp only [List.mem_cons, List.not_mem_nil, or_false] at hi ⊢ <;> omega)
        show ST G mi_Mo_keyOf 145 [(6, .int (nI k29)), (5, .int (nI (s24 + 1))), (0, .ref 373), (1, .ref src), (2, .int (nI pos)), (3, .int (nI 32)), (4, .int (nI 0))] [] u45 0 0 _
        refine ST.lift (fun _ _ k => T_aload_n (v := .ref 373) d_Mo_keyOf_145 rfl (Or.inr ⟨_, rfl⟩) k) ?_
        refine S_virtual (as := []) (rest := []) (b := 373) d_Mo_keyOf_146 rfl (jw_Mo_letterC.jo (by decide)) lm_Mo_209 ji_Mo_letterC js_Mo_letterC (w373 _) rfl rfl rfl (Nat.le_of_ble_eq_true rfl) (by decide) (by decide) (c_Mo_letterC G u45 s48 es_u45 (by omega) hv46) (fun r u50 hq => ?_)
        obtain ⟨hr, hv51, hm52, s53, hb_s53, es_u50⟩ := hq
        rw [hr]
        clear hr r
        have hm54 := hm49.go hm52 (by intro i hi; simp only [List.mem_cons, List.not_mem_nil, or_false] at hi ⊢ <;> omega)
        show ST G mi_Mo_keyOf 149 [(6, .int (nI k29)), (5, .int (nI (s24 + 1))), (0, .ref 373), (1, .ref src), (2, .int (nI pos)), (3, .int (nI 32)), (4, .int (nI 0))] [] u50 0 0 _
        refine ST.lift (fun _ _ k => T_aload_n (v := .ref 373) d_Mo_keyOf_149 rfl (Or.inr ⟨_, rfl⟩) k) ?_
        refine ST.lift (fun _ _ k => T_aload_n (v := .ref 373) d_Mo_keyOf_150 rfl (Or.inr ⟨_, rfl⟩) k) ?_
        refine S_getfield d_Mo_keyOf_151 fg_Mo_280 (w373 _) rfl ?_
        refine ST.lift (fun _ _ k => T_iload d_Mo_keyOf_154 rfl k) ?_
        refine S_virtual (as := [.ref 401, .int (nI (s24 + 1))]) (rest := []) (b := 373) d_Mo_keyOf_156 rfl (jw_Mo_stretch.jo (by decide)) lm_Mo_212 ji_Mo_stretch js_Mo_stretch (w373 _) rfl rfl rfl (Nat.le_of_ble_eq_true rfl) (by decide) (by decide) (c_Mo_stretch G u50 401 400 (by decide) a401 (by omega) (s24 + 1) (by omega) s53 es_u50 (by omega) hv51) (fun r u55 hq => ?_)
        obtain ⟨hr, hv56, hm57, es_u55⟩ := hq
        rw [hr]
        clear hr r
        have hm59 := hm54.go hm57 (by intro i hi; simp only [List.mem_cons, List.not_mem_nil, or_false] at hi ⊢ <;> omega)
        show ST G mi_Mo_keyOf 159 [(6, .int (nI k29)), (5, .int (nI (s24 + 1))), (0, .ref 373), (1, .ref src), (2, .int (nI pos)), (3, .int (nI 32)), (4, .int (nI 0))] [] u55 0 0 _
        refine ST.lift (fun _ _ k => T_aload_n (v := .ref 373) d_Mo_keyOf_159 rfl (Or.inr ⟨_, rfl⟩) k) ?_
        refine ST.lift (fun _ _ k => T_aload_n (v := .ref 373) d_Mo_keyOf_160 rfl (Or.inr ⟨_, rfl⟩) k) ?_
        refine S_getfield d_Mo_keyOf_161 fg_Mo_55 (w373 _) rfl ?_
        refine ST.lift (fun _ _ k => T_iconst (v := nI 0) d_Mo_keyOf_164 (by decide) k) ?_
        refine ST.lift (fun _ _ k => T_bipush (v := nI 64) d_Mo_keyOf_165 (by decide) k) ?_
        refine S_virtual (as := [.ref 383, .int (nI 0), .int (nI 64)]) (rest := []) (b := 373) d_Mo_keyOf_167 rfl (jw_Mo_scalarOf.jo (by decide)) lm_Mo_287 ji_Mo_scalarOf js_Mo_scalarOf (w373 _) rfl rfl rfl (Nat.le_of_ble_eq_true rfl) (by decide) (by decide) (c_Mo_scalarOf G u55 383 64 (by decide) a383 (by omega) 0 (by omega) 64 (by omega)) (fun r v' hq => ?_)
        rw [hq.1, hq.2]
        clear hq r v'
        show ST G mi_Mo_keyOf 170 [(6, .int (nI k29)), (5, .int (nI (s24 + 1))), (0, .ref 373), (1, .ref src), (2, .int (nI pos)), (3, .int (nI 32)), (4, .int (nI 0))] [] u55 0 0 _
        exact S_vret d_Mo_keyOf_170 rfl (by decide) (by decide) (hQ _ hv56 hm59 (es_u55.trans (congrArg nI (by omega))))
      · refine ST.lift (fun _ _ k => T_aload_n (v := .ref 373) d_Mo_keyOf_106 rfl (Or.inr ⟨_, rfl⟩) k) ?_
        refine S_getfield d_Mo_keyOf_107 fg_Mo_280 (w373 _) rfl ?_
        refine ST.lift (fun _ _ k => T_iload d_Mo_keyOf_110 rfl k) ?_
        refine ST.lift (fun _ _ k => T_aload_n (v := .ref 373) d_Mo_keyOf_112 rfl (Or.inr ⟨_, rfl⟩) k) ?_
        refine S_getfield d_Mo_keyOf_113 fg_Mo_1 (w373 _) rfl ?_
        refine ST.lift (fun _ _ k => T_iload d_Mo_keyOf_116 rfl k) ?_
        refine S_iaload d_Mo_keyOf_118 a374 (vp_in_nI (by omega) (by omega)) (fun z60 => ?_)
        refine S_iastore d_Mo_keyOf_119 (by decide) a401 (vp_in_nI (by omega) (by omega)) ?_
        refine S_iincN (a := k29) (b := 1) (L' := [(6, .int (nI (k29 + 1))), (5, .int (nI (s24 + 1))), (0, .ref 373), (1, .ref src), (2, .int (nI pos)), (3, .int (nI 32)), (4, .int (nI 0))]) d_Mo_keyOf_120 (by decide) rfl rfl rfl ?_
        refine ST.lift (fun _ _ k => T_goto (tgt := 99) d_Mo_keyOf_123 rfl k) ?_
        exact ih31 ((s24 + 1) - (k29 + 1)) (by omega) (k29 + 1)  rfl (by omega)
  exact lp32 _ 0  rfl (by omega)
set_option maxRecDepth 100000 in
set_option maxHeartbeats 4000000 in
theorem c_Mo_keyOf_1 (G : GX) (v : Nat → Int32) (src m : Nat) (w_src : K0 ≤ src) (a_src : aI src m) (l_src : m ≤ 4000) (pos : Nat) (b_pos : pos ≤ 1000) (s : Nat) (es : v 67 = nI s) (hs : s ≤ 100) (hp : pos + 32 ≤ m) (hv : okv v) : CS G mi_Mo_keyOf [.ref 373, .ref src, .int (nI pos), .int (nI 32), .int (nI 1)] v (fun r v' => r = none ∧ okv v' ∧ mdf [67, 70] v v' ∧ v' 67 = nI 0) := by
  refine CS.of (by decide) (Nat.le_of_ble_eq_true rfl) ?_
  generalize hQe : (fun (r : Option Value) (v' : Nat → Int32) => r = none ∧ okv v' ∧ mdf [67, 70] v v' ∧ v' 67 = nI 0) = Q
  have hQ : ∀ (u : Nat → Int32) , okv u → mdf [67, 70] v u → u 67 = nI 0 → Q none u := by rw [← hQe]; exact fun u h1 h2 h3 => ⟨rfl, h1, h2, h3⟩
  clear hQe
  have hm : mdf [67, 70] v v := mdf.rf
  show ST G mi_Mo_keyOf 0 [(0, .ref 373), (1, .ref src), (2, .int (nI pos)), (3, .int (nI 32)), (4, .int (nI 1))] [] v 0 0 Q
  refine ST.lift (fun _ _ k => T_aload_n (v := .ref 373) d_Mo_keyOf_0 rfl (Or.inr ⟨_, rfl⟩) k) ?_
  refine ST.lift (fun _ _ k => T_aload_n (v := .ref src) d_Mo_keyOf_1 rfl (Or.inr ⟨_, rfl⟩) k) ?_
  refine ST.lift (fun _ _ k => T_iload_n d_Mo_keyOf_2 rfl k) ?_
  refine ST.lift (fun _ _ k => T_iload_n d_Mo_keyOf_3 rfl k) ?_
  refine S_virtual (as := [.ref src, .int (nI pos), .int (nI 32)]) (rest := []) (b := 373) d_Mo_keyOf_4 rfl (jw_Mo_bytes.jo (by decide)) lm_Mo_76 ji_Mo_bytes js_Mo_bytes (w373 _) rfl rfl rfl (Nat.le_of_ble_eq_true rfl) (by decide) (by decide) (c_Mo_bytes G v src m w_src a_src (by omega) pos (by omega) 32 (by omega) s es (by omega) hv) (fun r u1 hq => ?_)
  obtain ⟨hr, hv2, hm3, s4, hb_s4, es_u1⟩ := hq
  rw [hr]
  clear hr r
  have hm5 := hm.go hm3 (by intro i hi; simp only [List.mem_cons, List.not_mem_nil, or_false] at hi ⊢ <;> omega)
  show ST G mi_Mo_keyOf 7 [(0, .ref 373), (1, .ref src), (2, .int (nI pos)), (3, .int (nI 32)), (4, .int (nI 1))] [] u1 0 0 _
  refine ST.lift (fun _ _ k => T_iload d_Mo_keyOf_7 rfl k) ?_
  refine S_if_neN d_Mo_keyOf_9 rfl (by omega) (fun _ => ?_) (fun c => by first | exact absurd c (by omega) | exact c.elim | exact absurd c (by decide) | exact absurd (by assumption) c | exact absurd c (by assumption))
  refine ST.lift (fun _ _ k => T_aload_n (v := .ref 373) d_Mo_keyOf_43 rfl (Or.inr ⟨_, rfl⟩) k) ?_
  refine ST.lift (fun _ _ k => T_bipush (v := nI 33) d_Mo_keyOf_44 (by decide) k) ?_
  refine ST.lift (fun _ _ k => T_iconst (v := nI 2) d_Mo_keyOf_46 (by decide) k) ?_
  refine S_virtual (as := [.int (nI 33), .int (nI 2)]) (rest := []) (b := 373) d_Mo_keyOf_47 rfl (jw_Mo_number.jo (by decide)) lm_Mo_120 ji_Mo_number js_Mo_number (w373 _) rfl rfl rfl (Nat.le_of_ble_eq_true rfl) (by decide) (by decide) (c_Mo_number_2 G u1 (nI 33) s4 es_u1 (by omega) hv2) (fun r u6 hq => ?_)
  obtain ⟨hr, hv7, hm8, s9, hb_s9, es_u6⟩ := hq
  rw [hr]
  clear hr r
  have hm10 := hm5.go hm8 (by intro i hi; simp only [List.mem_cons, List.not_mem_nil, or_false] at hi ⊢ <;> omega)
  show ST G mi_Mo_keyOf 50 [(0, .ref 373), (1, .ref src), (2, .int (nI pos)), (3, .int (nI 32)), (4, .int (nI 1))] [] u6 0 0 _
  refine ST.lift (fun _ _ k => T_aload_n (v := .ref 373) d_Mo_keyOf_50 rfl (Or.inr ⟨_, rfl⟩) k) ?_
  refine ST.lift (fun _ _ k => T_ldc2 d_Mo_keyOf_51 kJ_Mo_266 k) ?_
  refine S_virtual (as := [.long (5715139744711912772)]) (rest := []) (b := 373) d_Mo_keyOf_54 rfl (jw_Mo_letters.jo (by decide)) lm_Mo_104 ji_Mo_letters js_Mo_letters (w373 _) rfl rfl rfl (Nat.le_of_ble_eq_true rfl) (by decide) (by decide) (c_Mo_letters G u6 (5715139744711912772) s9 es_u6 (by omega) hv7) (fun r u11 hq => ?_)
  obtain ⟨hr, hv12, hm13, s14, hb_s14, es_u11⟩ := hq
  rw [hr]
  clear hr r
  have hm15 := hm10.go hm13 (by intro i hi; simp only [List.mem_cons, List.not_mem_nil, or_false] at hi ⊢ <;> omega)
  show ST G mi_Mo_keyOf 57 [(0, .ref 373), (1, .ref src), (2, .int (nI pos)), (3, .int (nI 32)), (4, .int (nI 1))] [] u11 0 0 _
  refine ST.lift (fun _ _ k => T_aload_n (v := .ref 373) d_Mo_keyOf_57 rfl (Or.inr ⟨_, rfl⟩) k) ?_
  refine ST.lift (fun _ _ k => T_ldc2 d_Mo_keyOf_58 kJ_Mo_272 k) ?_
  refine S_virtual (as := [.long (7310021102401775974)]) (rest := []) (b := 373) d_Mo_keyOf_61 rfl (jw_Mo_letters.jo (by decide)) lm_Mo_104 ji_Mo_letters js_Mo_letters (w373 _) rfl rfl rfl (Nat.le_of_ble_eq_true rfl) (by decide) (by decide) (c_Mo_letters G u11 (7310021102401775974) s14 es_u11 (by omega) hv12) (fun r u16 hq => ?_)
  obtain ⟨hr, hv17, hm18, s19, hb_s19, es_u16⟩ := hq
  rw [hr]
  clear hr r
  have hm20 := hm15.go hm18 (by intro i hi; simp only [List.mem_cons, List.not_mem_nil, or_false] at hi ⊢ <;> omega)
  show ST G mi_Mo_keyOf 64 [(0, .ref 373), (1, .ref src), (2, .int (nI pos)), (3, .int (nI 32)), (4, .int (nI 1))] [] u16 0 0 _
  refine ST.lift (fun _ _ k => T_aload_n (v := .ref 373) d_Mo_keyOf_64 rfl (Or.inr ⟨_, rfl⟩) k) ?_
  refine ST.lift (fun _ _ k => T_ldc2 d_Mo_keyOf_65 kJ_Mo_274 k) ?_
  refine S_virtual (as := [.long (7379540826036923501)]) (rest := []) (b := 373) d_Mo_keyOf_68 rfl (jw_Mo_letters.jo (by decide)) lm_Mo_104 ji_Mo_letters js_Mo_letters (w373 _) rfl rfl rfl (Nat.le_of_ble_eq_true rfl) (by decide) (by decide) (c_Mo_letters G u16 (7379540826036923501) s19 es_u16 (by omega) hv17) (fun r u21 hq => ?_)
  obtain ⟨hr, hv22, hm23, s24, hb_s24, es_u21⟩ := hq
  rw [hr]
  clear hr r
  have hm25 := hm20.go hm23 (by intro i hi; simp only [List.mem_cons, List.not_mem_nil, or_false] at hi ⊢ <;> omega)
  show ST G mi_Mo_keyOf 71 [(0, .ref 373), (1, .ref src), (2, .int (nI pos)), (3, .int (nI 32)), (4, .int (nI 1))] [] u21 0 0 _
  refine ST.lift (fun _ _ k => T_aload_n (v := .ref 373) d_Mo_keyOf_71 rfl (Or.inr ⟨_, rfl⟩) k) ?_
  refine ST.lift (fun _ _ k => T_ldc2 d_Mo_keyOf_72 kJ_Mo_276 k) ?_
  refine S_virtual (as := [.long (7020631768316273001)]) (rest := []) (b := 373) d_Mo_keyOf_75 rfl (jw_Mo_letters.jo (by decide)) lm_Mo_104 ji_Mo_letters js_Mo_letters (w373 _) rfl rfl rfl (Nat.le_of_ble_eq_true rfl) (by decide) (by decide) (c_Mo_letters G u21 (7020631768316273001) s24 es_u21 (by omega) hv22) (fun r u26 hq => ?_)
  obtain ⟨hr, hv27, hm28, s29, hb_s29, es_u26⟩ := hq
  rw [hr]
  clear hr r
  have hm30 := hm25.go hm28 (by intro i hi; simp only [List.mem_cons, List.not_mem_nil, or_false] at hi ⊢ <;> omega)
  show ST G mi_Mo_keyOf 78 [(0, .ref 373), (1, .ref src), (2, .int (nI pos)), (3, .int (nI 32)), (4, .int (nI 1))] [] u26 0 0 _
  refine ST.lift (fun _ _ k => T_aload_n (v := .ref 373) d_Mo_keyOf_78 rfl (Or.inr ⟨_, rfl⟩) k) ?_
  refine ST.lift (fun _ _ k => T_ldc2 d_Mo_keyOf_79 kJ_Mo_278 k) ?_
  refine S_virtual (as := [.long (114)]) (rest := []) (b := 373) d_Mo_keyOf_82 rfl (jw_Mo_letters.jo (by decide)) lm_Mo_104 ji_Mo_letters js_Mo_letters (w373 _) rfl rfl rfl (Nat.le_of_ble_eq_true rfl) (by decide) (by decide) (c_Mo_letters G u26 (114) s29 es_u26 (by omega) hv27) (fun r u31 hq => ?_)
  obtain ⟨hr, hv32, hm33, s34, hb_s34, es_u31⟩ := hq
  rw [hr]
  clear hr r
  have hm35 := hm30.go hm33 (by intro i hi; simp only [List.mem_cons, List.not_mem_nil, or_false] at hi ⊢ <;> omega)
  show ST G mi_Mo_keyOf 85 [(0, .ref 373), (1, .ref src), (2, .int (nI pos)), (3, .int (nI 32)), (4, .int (nI 1))] [] u31 0 0 _
  refine ST.lift (fun _ _ k => T_aload_n (v := .ref 373) d_Mo_keyOf_85 rfl (Or.inr ⟨_, rfl⟩) k) ?_
  refine ST.lift (fun _ _ k => T_iconst (v := nI 0) d_Mo_keyOf_86 (by decide) k) ?_
  refine S_virtual (as := [.int (nI 0)]) (rest := []) (b := 373) d_Mo_keyOf_87 rfl (jw_Mo_one.jo (by decide)) lm_Mo_11 ji_Mo_one js_Mo_one (w373 _) rfl rfl rfl (Nat.le_of_ble_eq_true rfl) (by decide) (by decide) (c_Mo_one G u31 (nI 0) s34 es_u31 (by omega) hv32) (fun r v' hq => ?_)
  rw [hq.1, hq.2]
  clear hq r v'
  show ST G mi_Mo_keyOf 90 [(0, .ref 373), (1, .ref src), (2, .int (nI pos)), (3, .int (nI 32)), (4, .int (nI 1))] [] (va_up u31 67 (nI (s34 + 1))) 0 0 _
  have hv37 := hv32.up (j := 67) (c := 4000) (k := (s34 + 1)) (by decide) (by omega)
  have hm38 := hm35.go (mdf.up (v := u31) (j := 67) (x := (nI (s34 + 1)))) (by intro i hi; simp only [List.mem_cons, List.not_mem_nil, or_false] at hi ⊢ <;> omega)
  have e_u36 : (va_up u31 67 (nI (s34 + 1))) 67 = (nI (s34 + 1)) := by simp [va_up]
  generalize va_up u31 67 (nI (s34 + 1)) = u36 at hv37 hm38 e_u36 ⊢
  refine ST.lift (fun _ _ k => T_aload_n (v := .ref 373) d_Mo_keyOf_90 rfl (Or.inr ⟨_, rfl⟩) k) ?_
  refine S_getfield d_Mo_keyOf_91 fg_Mo_7 (w373 _) rfl ?_
  refine S_topi (y := nI (s34 + 1)) (e_u36) ?_
  refine ST.lift (fun _ _ k => T_istore (L' := [(5, .int (nI (s34 + 1))), (0, .ref 373), (1, .ref src), (2, .int (nI pos)), (3, .int (nI 32)), (4, .int (nI 1))]) d_Mo_keyOf_94 (by decide) rfl k) ?_
  refine ST.lift (fun _ _ k => T_iconst (v := nI 0) d_Mo_keyOf_96 (by decide) k) ?_
  refine ST.lift (fun _ _ k => T_istore (L' := [(6, .int (nI 0)), (5, .int (nI (s34 + 1))), (0, .ref 373), (1, .ref src), (2, .int (nI pos)), (3, .int (nI 32)), (4, .int (nI 1))]) d_Mo_keyOf_97 (by decide) rfl k) ?_
  have lp42 : ∀ (n40 k39 : Nat), (s34 + 1) - k39 = n40 → 0 ≤ k39 ∧ k39 ≤ 0 + (s34 + 1) → ST G mi_Mo_keyOf 99 [(6, .int (nI k39)), (5, .int (nI (s34 + 1))), (0, .ref 373), (1, .ref src), (2, .int (nI pos)), (3, .int (nI 32)), (4, .int (nI 1))] [] u36 0 0 Q := by
    intro n40
    induction n40 using Nat.strongRecOn with
    | _ n40 ih41 =>
      intro k39 h43 h44
      refine ST.lift (fun _ _ k => T_iload d_Mo_keyOf_99 rfl k) ?_
      refine ST.lift (fun _ _ k => T_iload d_Mo_keyOf_101 rfl k) ?_
      refine S_icmp_geN d_Mo_keyOf_103 rfl (by omega) (by omega) (fun c45 => ?_) (fun c45 => ?_)
      · refine ST.lift (fun _ _ k => T_aload_n (v := .ref 373) d_Mo_keyOf_126 rfl (Or.inr ⟨_, rfl⟩) k) ?_
        refine ST.lift (fun _ _ k => T_iconst (v := nI 0) d_Mo_keyOf_127 (by decide) k) ?_
        refine S_putfield (v' := va_up u36 67 (nI 0)) d_Mo_keyOf_128 (fp_Mo_7 _) (w373 _) (Nat.le_of_ble_eq_true rfl) ⟨rfl, rfl⟩ (u373_2 _ _) ?_
        have hv48 := hv37.up (j := 67) (c := 4000) (k := 0) (by decide) (by omega)
        have hm49 := hm38.go (mdf.up (v := u36) (j := 67) (x := (nI 0))) (by intro i hi; simp only [List.mem_cons, List.not_mem_nil, or_false] at hi ⊢ <;> omega)
        have e_u47 : (va_up u36 67 (nI 0)) 67 = (nI 0) := by simp [va_up]
        generalize va_up u36 67 (nI 0) = u47 at hv48 hm49 e_u47 ⊢
        refine ST.lift (fun _ _ k => T_aload_n (v := .ref 373) d_Mo_keyOf_131 rfl (Or.inr ⟨_, rfl⟩) k) ?_
        refine ST.lift (fun _ _ k => T_ldc2 d_Mo_keyOf_132 kJ_Mo_283 k) ?_
        refine S_virtual (as := [.long (4928471164510358373)]) (rest := []) (b := 373) d_Mo_keyOf_135 rfl (jw_Mo_letters.jo (by decide)) lm_Mo_104 ji_Mo_letters js_Mo_letters (w373 _) rfl rfl rfl (Nat.le_of_ble_eq_true rfl) (by decide) (by decide) (c_Mo_letters G u47 (4928471164510358373) 0 e_u47 (by omega) hv48) (fun r u50 hq => ?_)
        obtain ⟨hr, hv51, hm52, s53, hb_s53, es_u50⟩ := hq
        rw [hr]
        clear hr r
        have hm54 := hm49.go hm52 (by intro i hi; simp only [List.mem_cons, List.not_mem_nil, or_false] at hi ⊢ <;> omega)
        show ST G mi_Mo_keyOf 138 [(6, .int (nI k39)), (5, .int (nI (s34 + 1))), (0, .ref 373), (1, .ref src), (2, .int (nI pos)), (3, .int (nI 32)), (4, .int (nI 1))] [] u50 0 0 _
        refine ST.lift (fun _ _ k => T_aload_n (v := .ref 373) d_Mo_keyOf_138 rfl (Or.inr ⟨_, rfl⟩) k) ?_
        refine ST.lift (fun _ _ k => T_ldc2 d_Mo_keyOf_139 kJ_Mo_285 k) ?_
        refine S_virtual (as := [.long (521039604082)]) (rest := []) (b := 373) d_Mo_keyOf_142 rfl (jw_Mo_letters.jo (by decide)) lm_Mo_104 ji_Mo_letters js_Mo_letters (w373 _) rfl rfl rfl (Nat.le_of_ble_eq_true rfl) (by decide) (by decide) (c_Mo_letters G u50 (521039604082) s53 es_u50 (by omega) hv51) (fun r u55 hq => ?_)
        obtain ⟨hr, hv56, hm57, s58, hb_s58, es_u55⟩ := hq
        rw [hr]
        clear hr r
        have hm59 := hm54.go hm57 (by intro i hi; simp only [List.mem_cons, List.not_mem_nil, or_false] at hi ⊢ <;> omega)
        show ST G mi_Mo_keyOf 145 [(6, .int (nI k39)), (5, .int (nI (s34 + 1))), (0, .ref 373), (1, .ref src), (2, .int (nI pos)), (3, .int (nI 32)), (4, .int (nI 1))] [] u55 0 0 _
        refine ST.lift (fun _ _ k => T_aload_n (v := .ref 373) d_Mo_keyOf_145 rfl (Or.inr ⟨_, rfl⟩) k) ?_
        refine S_virtual (as := []) (rest := []) (b := 373) d_Mo_keyOf_146 rfl (jw_Mo_letterC.jo (by decide)) lm_Mo_209 ji_Mo_letterC js_Mo_letterC (w373 _) rfl rfl rfl (Nat.le_of_ble_eq_true rfl) (by decide) (by decide) (c_Mo_letterC G u55 s58 es_u55 (by omega) hv56) (fun r u60 hq => ?_)
        obtain ⟨hr, hv61, hm62, s63, hb_s63, es_u60⟩ := hq
        rw [hr]
        clear hr r
        have hm64 := hm59.go hm62 (by intro i hi; simp only [List.mem_cons, List.not_mem_nil, or_false] at hi ⊢ <;> omega)
        show ST G mi_Mo_keyOf 149 [(6, .int (nI k39)), (5, .int (nI (s34 + 1))), (0, .ref 373), (1, .ref src), (2, .int (nI pos)), (3, .int (nI 32)), (4, .int (nI 1))] [] u60 0 0 _
        refine ST.lift (fun _ _ k => T_aload_n (v := .ref 373) d_Mo_keyOf_149 rfl (Or.inr ⟨_, rfl⟩) k) ?_
        refine ST.lift (fun _ _ k => T_aload_n (v := .ref 373) d_Mo_keyOf_150 rfl (Or.inr ⟨_, rfl⟩) k) ?_
        refine S_getfield d_Mo_keyOf_151 fg_Mo_280 (w373 _) rfl ?_
        refine ST.lift (fun _ _ k => T_iload d_Mo_keyOf_154 rfl k) ?_
        refine S_virtual (as := [.ref 401, .int (nI (s34 + 1))]) (rest := []) (b := 373) d_Mo_keyOf_156 rfl (jw_Mo_stretch.jo (by decide)) lm_Mo_212 ji_Mo_stretch js_Mo_stretch (w373 _) rfl rfl rfl (Nat.le_of_ble_eq_true rfl) (by decide) (by decide) (c_Mo_stretch G u60 401 400 (by decide) a401 (by omega) (s34 + 1) (by omega) s63 es_u60 (by omega) hv61) (fun r u65 hq => ?_)
        obtain ⟨hr, hv66, hm67, es_u65⟩ := hq
        rw [hr]
        clear hr r
        have hm69 := hm64.go hm67 (by intro i hi; simp only [List.mem_cons, List.not_mem_nil, or_false] at hi ⊢ <;> omega)
        show ST G mi_Mo_keyOf 159 [(6, .int (nI k39)), (5, .int (nI (s34 + 1))), (0, .ref 373), (1, .ref src), (2, .int (nI pos)), (3, .int (nI 32)), (4, .int (nI 1))] [] u65 0 0 _
        refine ST.lift (fun _ _ k => T_aload_n (v := .ref 373) d_Mo_keyOf_159 rfl (Or.inr ⟨_, rfl⟩) k) ?_
        refine ST.lift (fun _ _ k => T_aload_n (v := .ref 373) d_Mo_keyOf_160 rfl (Or.inr ⟨_, rfl⟩) k) ?_
        refine S_getfield d_Mo_keyOf_161 fg_Mo_55 (w373 _) rfl ?_
        refine ST.lift (fun _ _ k => T_iconst (v := nI 0) d_Mo_keyOf_164 (by decide) k) ?_
        refine ST.lift (fun _ _ k => T_bipush (v := nI 64) d_Mo_keyOf_165 (by decide) k) ?_
        refine S_virtual (as := [.ref 383, .int (nI 0), .int (nI 64)]) (rest := []) (b := 373) d_Mo_keyOf_167 rfl (jw_Mo_scalarOf.jo (by decide)) lm_Mo_287 ji_Mo_scalarOf js_Mo_scalarOf (w373 _) rfl rfl rfl (Nat.le_of_ble_eq_true rfl) (by decide) (by decide) (c_Mo_scalarOf G u65 383 64 (by decide) a383 (by omega) 0 (by omega) 64 (by omega)) (fun r v' hq => ?_)
        rw [hq.1, hq.2]
        clear hq r v'
        show ST G mi_Mo_keyOf 170 [(6, .int (nI k39)), (5, .int (nI (s34 + 1))), (0, .ref 373), (1, .ref src), (2, .int (nI pos)), (3, .int (nI 32)), (4, .int (nI 1))] [] u65 0 0 _
        exact S_vret d_Mo_keyOf_170 rfl (by decide) (by decide) (hQ _ hv66 hm69 (es_u65.trans (congrArg nI (by omega))))
      · refine ST.lift (fun _ _ k => T_aload_n (v := .ref 373) d_Mo_keyOf_106 rfl (Or.inr ⟨_, rfl⟩) k) ?_
        refine S_getfield d_Mo_keyOf_107 fg_Mo_280 (w373 _) rfl ?_
        refine ST.lift (fun _ _ k => T_iload d_Mo_keyOf_110 rfl k) ?_
        refine ST.lift (fun _ _ k => T_aload_n (v := .ref 373) d_Mo_keyOf_112 rfl (Or.inr ⟨_, rfl⟩) k) ?_
        refine S_getfield d_Mo_keyOf_113 fg_Mo_1 (w373 _) rfl ?_
        refine ST.lift (fun _ _ k => T_iload d_Mo_keyOf_116 rfl k) ?_
        refine S_iaload d_Mo_keyOf_118 a374 (vp_in_nI (by omega) (by omega)) (fun z70 => ?_)
        refine S_iastore d_Mo_keyOf_119 (by decide) a401 (vp_in_nI (by omega) (by omega)) ?_
        refine S_iincN (a := k39) (b := 1) (L' := [(6, .int (nI (k39 + 1))), (5, .int (nI (s34 + 1))), (0, .ref 373), (1, .ref src), (2, .int (nI pos)), (3, .int (nI 32)), (4, .int (nI 1))]) d_Mo_keyOf_120 (by decide) rfl rfl rfl ?_
        refine ST.lift (fun _ _ k => T_goto (tgt := 99) d_Mo_keyOf_123 rfl k) ?_
        exact ih41 ((s34 + 1) - (k39 + 1)) (by omega) (k39 + 1)  rfl (by omega)
  exact lp42 _ 0  rfl (by omega)
set_option maxRecDepth 100000 in
set_option maxHeartbeats 4000000 in
theorem c_Mo_chance (G : GX) (v : Nat → Int32) (s : Nat) (es : v 67 = nI s) (hs : s ≤ 100) (hv : okv v) : CS G mi_Mo_chance [.ref 373] v (fun r v' => r = none ∧ okv v' ∧ mdf [67, 72] v v' ∧ v' 67 = nI 0) := by
  refine CS.of (by decide) (Nat.le_of_ble_eq_true rfl) ?_
  generalize hQe : (fun (r : Option Value) (v' : Nat → Int32) => r = none ∧ okv v' ∧ mdf [67, 72] v v' ∧ v' 67 = nI 0) = Q
  have hQ : ∀ (u : Nat → Int32) , okv u → mdf [67, 72] v u → u 67 = nI 0 → Q none u := by rw [← hQe]; exact fun u h1 h2 h3 => ⟨rfl, h1, h2, h3⟩
  clear hQe
  have hm : mdf [67, 72] v v := mdf.rf
  show ST G mi_Mo_chance 0 [(0, .ref 373)] [] v 0 0 Q
  refine ST.lift (fun _ _ k => T_aload_n (v := .ref 373) d_Mo_chance_0 rfl (Or.inr ⟨_, rfl⟩) k) ?_
  refine ST.lift (fun _ _ k => T_ldc2 d_Mo_chance_1 kJ_Mo_296 k) ?_
  refine S_virtual (as := [.long (109299962372965)]) (rest := []) (b := 373) d_Mo_chance_4 rfl (jw_Mo_letters.jo (by decide)) lm_Mo_104 ji_Mo_letters js_Mo_letters (w373 _) rfl rfl rfl (Nat.le_of_ble_eq_true rfl) (by decide) (by decide) (c_Mo_letters G v (109299962372965) s es (by omega) hv) (fun r u1 hq => ?_)
  obtain ⟨hr, hv2, hm3, s4, hb_s4, es_u1⟩ := hq
  rw [hr]
  clear hr r
  have hm5 := hm.go hm3 (by intro i hi; simp only [List.mem_cons, List.not_mem_nil, or_false] at hi ⊢ <;> omega)
  show ST G mi_Mo_chance 7 [(0, .ref 373)] [] u1 0 0 _
  refine ST.lift (fun _ _ k => T_aload_n (v := .ref 373) d_Mo_chance_7 rfl (Or.inr ⟨_, rfl⟩) k) ?_
  refine ST.lift (fun _ _ k => T_aload_n (v := .ref 373) d_Mo_chance_8 rfl (Or.inr ⟨_, rfl⟩) k) ?_
  refine S_getfield d_Mo_chance_9 fg_Mo_298 (w373 _) rfl ?_
  refine ST.lift (fun _ _ k => T_iconst (v := nI 4) d_Mo_chance_12 (by decide) k) ?_
  refine S_virtual (as := [.int (u1 71), .int (nI 4)]) (rest := []) (b := 373) d_Mo_chance_13 rfl (jw_Mo_number.jo (by decide)) lm_Mo_120 ji_Mo_number js_Mo_number (w373 _) rfl rfl rfl (Nat.le_of_ble_eq_true rfl) (by decide) (by decide) (c_Mo_number_4 G u1 (u1 71) s4 es_u1 (by omega) hv2) (fun r u6 hq => ?_)
  obtain ⟨hr, hv7, hm8, s9, hb_s9, es_u6⟩ := hq
  rw [hr]
  clear hr r
  have hm10 := hm5.go hm8 (by intro i hi; simp only [List.mem_cons, List.not_mem_nil, or_false] at hi ⊢ <;> omega)
  show ST G mi_Mo_chance 16 [(0, .ref 373)] [] u6 0 0 _
  refine ST.lift (fun _ _ k => T_aload_n (v := .ref 373) d_Mo_chance_16 rfl (Or.inr ⟨_, rfl⟩) k) ?_
  refine ST.lift (fun _ _ k => T_aload_n (v := .ref 373) d_Mo_chance_17 rfl (Or.inr ⟨_, rfl⟩) k) ?_
  refine S_getfield d_Mo_chance_18 fg_Mo_301 (w373 _) rfl ?_
  refine ST.lift (fun _ _ k => T_iconst (v := nI 4) d_Mo_chance_21 (by decide) k) ?_
  refine S_virtual (as := [.int (u6 72), .int (nI 4)]) (rest := []) (b := 373) d_Mo_chance_22 rfl (jw_Mo_number.jo (by decide)) lm_Mo_120 ji_Mo_number js_Mo_number (w373 _) rfl rfl rfl (Nat.le_of_ble_eq_true rfl) (by decide) (by decide) (c_Mo_number_4 G u6 (u6 72) s9 es_u6 (by omega) hv7) (fun r u11 hq => ?_)
  obtain ⟨hr, hv12, hm13, s14, hb_s14, es_u11⟩ := hq
  rw [hr]
  clear hr r
  have hm15 := hm10.go hm13 (by intro i hi; simp only [List.mem_cons, List.not_mem_nil, or_false] at hi ⊢ <;> omega)
  show ST G mi_Mo_chance 25 [(0, .ref 373)] [] u11 0 0 _
  refine ST.lift (fun _ _ k => T_aload_n (v := .ref 373) d_Mo_chance_25 rfl (Or.inr ⟨_, rfl⟩) k) ?_
  refine S_virtual (as := []) (rest := []) (b := 373) d_Mo_chance_26 rfl (jw_Mo_hash0.jo (by decide)) lm_Mo_80 ji_Mo_hash0 js_Mo_hash0 (w373 _) rfl rfl rfl (Nat.le_of_ble_eq_true rfl) (by decide) (by decide) (c_Mo_hash0 G u11 s14 es_u11 (by omega) hv12) (fun r u16 hq => ?_)
  obtain ⟨hr, hv17, hm18, es_u16⟩ := hq
  rw [hr]
  clear hr r
  have hm20 := hm15.go hm18 (by intro i hi; simp only [List.mem_cons, List.not_mem_nil, or_false] at hi ⊢ <;> omega)
  show ST G mi_Mo_chance 29 [(0, .ref 373)] [] u16 0 0 _
  refine ST.lift (fun _ _ k => T_aload_n (v := .ref 373) d_Mo_chance_29 rfl (Or.inr ⟨_, rfl⟩) k) ?_
  refine ST.lift (fun _ _ k => T_dup d_Mo_chance_30 rfl k) ?_
  refine S_getfield d_Mo_chance_31 fg_Mo_301 (w373 _) rfl ?_
  refine ST.lift (fun _ _ k => T_iconst (v := nI 1) d_Mo_chance_34 (by decide) k) ?_
  refine ST.lift (fun _ _ k => T_iadd d_Mo_chance_35 k) (S_anyi fun z21 => ?_)
  refine S_putfield (v' := va_up u16 72 z21) d_Mo_chance_36 (fp_Mo_301 _) (w373 _) (Nat.le_of_ble_eq_true rfl) ⟨rfl, rfl⟩ (u373_34 _ _) ?_
  have hv23 := hv17.off (j := 72) (x := z21) (by decide)
  have hm24 := hm20.go (mdf.up (v := u16) (j := 72) (x := z21)) (by intro i hi; simp only [List.mem_cons, List.not_mem_nil, or_false] at hi ⊢ <;> omega)
  have e_u22 : (va_up u16 72 z21) 72 = z21 := by simp [va_up]
  have e25 : (va_up u16 72 z21) 67 = nI 0 := by simp only [va_up]; exact es_u16
  generalize va_up u16 72 z21 = u22 at hv23 hm24 e_u22 e25 ⊢
  exact S_vret d_Mo_chance_39 rfl (by decide) (by decide) (hQ _ hv23 hm24 (e25.trans (congrArg nI (by omega))))
set_option maxRecDepth 100000 in
set_option maxHeartbeats 4000000 in
theorem c_Mo_chanceScalar (G : GX) (v : Nat → Int32) (s : Nat) (es : v 67 = nI s) (hs : s ≤ 100) (hv : okv v) : CS G mi_Mo_chanceScalar [.ref 373] v (fun r v' => r = none ∧ okv v' ∧ mdf [67, 72] v v' ∧ v' 67 = nI 0) := by
  refine CS.of (by decide) (Nat.le_of_ble_eq_true rfl) ?_
  generalize hQe : (fun (r : Option Value) (v' : Nat → Int32) => r = none ∧ okv v' ∧ mdf [67, 72] v v' ∧ v' 67 = nI 0) = Q
  have hQ : ∀ (u : Nat → Int32) , okv u → mdf [67, 72] v u → u 67 = nI 0 → Q none u := by rw [← hQe]; exact fun u h1 h2 h3 => ⟨rfl, h1, h2, h3⟩
  clear hQe
  have hm : mdf [67, 72] v v := mdf.rf
  show ST G mi_Mo_chanceScalar 0 [(0, .ref 373)] [] v 0 0 Q
  refine ST.lift (fun _ _ k => T_aload_n (v := .ref 373) d_Mo_chanceScalar_0 rfl (Or.inr ⟨_, rfl⟩) k) ?_
  refine S_virtual (as := []) (rest := []) (b := 373) d_Mo_chanceScalar_1 rfl (jw_Mo_chance.jo (by decide)) lm_Mo_304 ji_Mo_chance js_Mo_chance (w373 _) rfl rfl rfl (Nat.le_of_ble_eq_true rfl) (by decide) (by decide) (c_Mo_chance G v s es (by omega) hv) (fun r u1 hq => ?_)
  obtain ⟨hr, hv2, hm3, es_u1⟩ := hq
  rw [hr]
  clear hr r
  have hm5 := hm.go hm3 (by intro i hi; simp only [List.mem_cons, List.not_mem_nil, or_false] at hi ⊢ <;> omega)
  show ST G mi_Mo_chanceScalar 4 [(0, .ref 373)] [] u1 0 0 _
  refine ST.lift (fun _ _ k => T_aload_n (v := .ref 373) d_Mo_chanceScalar_4 rfl (Or.inr ⟨_, rfl⟩) k) ?_
  refine ST.lift (fun _ _ k => T_aload_n (v := .ref 373) d_Mo_chanceScalar_5 rfl (Or.inr ⟨_, rfl⟩) k) ?_
  refine S_getfield d_Mo_chanceScalar_6 fg_Mo_55 (w373 _) rfl ?_
  refine ST.lift (fun _ _ k => T_iconst (v := nI 0) d_Mo_chanceScalar_9 (by decide) k) ?_
  refine ST.lift (fun _ _ k => T_bipush (v := nI 64) d_Mo_chanceScalar_10 (by decide) k) ?_
  refine S_virtual (as := [.ref 383, .int (nI 0), .int (nI 64)]) (rest := []) (b := 373) d_Mo_chanceScalar_12 rfl (jw_Mo_scalarOf.jo (by decide)) lm_Mo_287 ji_Mo_scalarOf js_Mo_scalarOf (w373 _) rfl rfl rfl (Nat.le_of_ble_eq_true rfl) (by decide) (by decide) (c_Mo_scalarOf G u1 383 64 (by decide) a383 (by omega) 0 (by omega) 64 (by omega)) (fun r v' hq => ?_)
  rw [hq.1, hq.2]
  clear hq r v'
  show ST G mi_Mo_chanceScalar 15 [(0, .ref 373)] [] u1 0 0 _
  refine ST.lift (fun _ _ k => T_aload_n (v := .ref 373) d_Mo_chanceScalar_15 rfl (Or.inr ⟨_, rfl⟩) k) ?_
  refine S_virtual (as := []) (rest := []) (b := 373) d_Mo_chanceScalar_16 rfl (jw_Mo_isScalarZero.jo (by decide)) lm_Mo_307 ji_Mo_isScalarZero js_Mo_isScalarZero (w373 _) rfl rfl rfl (Nat.le_of_ble_eq_true rfl) (by decide) (by decide) (c_Mo_isScalarZero G u1) (fun r v' hq => ?_)
  obtain ⟨z6, hz6, hr, hv⟩ := hq
  rw [hr, hv]
  clear hr hv r v'
  show ST G mi_Mo_chanceScalar 19 [(0, .ref 373)] [.int (nI z6)] u1 0 0 _
  refine S_if_eqN d_Mo_chanceScalar_19 rfl (by omega) (fun c7 => ?_) (fun c7 => ?_)
  · exact S_vret d_Mo_chanceScalar_29 rfl (by decide) (by decide) (hQ _ hv2 hm5 (es_u1.trans (congrArg nI (by omega))))
  · refine ST.lift (fun _ _ k => T_aload_n (v := .ref 373) d_Mo_chanceScalar_22 rfl (Or.inr ⟨_, rfl⟩) k) ?_
    refine S_getfield d_Mo_chanceScalar_23 fg_Mo_194 (w373 _) rfl ?_
    refine ST.lift (fun _ _ k => T_iconst (v := nI 0) d_Mo_chanceScalar_26 (by decide) k) ?_
    refine ST.lift (fun _ _ k => T_lconst (v := 1) d_Mo_chanceScalar_27 (by decide) k) ?_
    refine S_lastore d_Mo_chanceScalar_28 (by decide) a395 (vp_in_nI (by omega) (by omega)) ?_
    exact S_vret d_Mo_chanceScalar_29 rfl (by decide) (by decide) (hQ _ hv2 hm5 (es_u1.trans (congrArg nI (by omega))))
set_option maxRecDepth 100000 in
set_option maxHeartbeats 4000000 in
theorem c_Mo_groupPoint (G : GX) (v : Nat → Int32) (p : Nat) (b_p : p ≤ 60) (src m : Nat) (w_src : K0 ≤ src) (a_src : aI src m) (l_src : m ≤ 4000) (n : Nat) (b_n : n ≤ m ∧ n ≤ 1000) (s : Nat) (es : v 67 = nI s) (hs : s ≤ 50) (hv : okv v) : CS G mi_Mo_groupPoint [.ref 373, .int (nI p), .ref src, .int (nI n)] v (fun r v' => r = none ∧ okv v' ∧ mdf [67, 70] v v' ∧ v' 67 = nI 0) := by
  refine CS.of (by decide) (Nat.le_of_ble_eq_true rfl) ?_
  generalize hQe : (fun (r : Option Value) (v' : Nat → Int32) => r = none ∧ okv v' ∧ mdf [67, 70] v v' ∧ v' 67 = nI 0) = Q
  have hQ : ∀ (u : Nat → Int32) , okv u → mdf [67, 70] v u → u 67 = nI 0 → Q none u := by rw [← hQe]; exact fun u h1 h2 h3 => ⟨rfl, h1, h2, h3⟩
  clear hQe
  have hm : mdf [67, 70] v v := mdf.rf
  show ST G mi_Mo_groupPoint 0 [(0, .ref 373), (1, .int (nI p)), (2, .ref src), (3, .int (nI n))] [] v 0 0 Q
  refine ST.lift (fun _ _ k => T_aload_n (v := .ref 373) d_Mo_groupPoint_0 rfl (Or.inr ⟨_, rfl⟩) k) ?_
  refine ST.lift (fun _ _ k => T_ldc2 d_Mo_groupPoint_1 kJ_Mo_205 k) ?_
  refine S_virtual (as := [.long (5215576735402116978)]) (rest := []) (b := 373) d_Mo_groupPoint_4 rfl (jw_Mo_letters.jo (by decide)) lm_Mo_104 ji_Mo_letters js_Mo_letters (w373 _) rfl rfl rfl (Nat.le_of_ble_eq_true rfl) (by decide) (by decide) (c_Mo_letters G v (5215576735402116978) s es (by omega) hv) (fun r u1 hq => ?_)
  obtain ⟨hr, hv2, hm3, s4, hb_s4, es_u1⟩ := hq
  rw [hr]
  clear hr r
  have hm5 := hm.go hm3 (by intro i hi; simp only [List.mem_cons, List.not_mem_nil, or_false] at hi ⊢ <;> omega)
  show ST G mi_Mo_groupPoint 7 [(0, .ref 373), (1, .int (nI p)), (2, .ref src), (3, .int (nI n))] [] u1 0 0 _
  refine ST.lift (fun _ _ k => T_aload_n (v := .ref 373) d_Mo_groupPoint_7 rfl (Or.inr ⟨_, rfl⟩) k) ?_
  refine ST.lift (fun _ _ k => T_ldc2 d_Mo_groupPoint_8 kJ_Mo_207 k) ?_
  refine S_virtual (as := [.long (1869967405)]) (rest := []) (b := 373) d_Mo_groupPoint_11 rfl (jw_Mo_letters.jo (by decide)) lm_Mo_104 ji_Mo_letters js_Mo_letters (w373 _) rfl rfl rfl (Nat.le_of_ble_eq_true rfl) (by decide) (by decide) (c_Mo_letters G u1 (1869967405) s4 es_u1 (by omega) hv2) (fun r u6 hq => ?_)
  obtain ⟨hr, hv7, hm8, s9, hb_s9, es_u6⟩ := hq
  rw [hr]
  clear hr r
  have hm10 := hm5.go hm8 (by intro i hi; simp only [List.mem_cons, List.not_mem_nil, or_false] at hi ⊢ <;> omega)
  show ST G mi_Mo_groupPoint 14 [(0, .ref 373), (1, .int (nI p)), (2, .ref src), (3, .int (nI n))] [] u6 0 0 _
  refine ST.lift (fun _ _ k => T_aload_n (v := .ref 373) d_Mo_groupPoint_14 rfl (Or.inr ⟨_, rfl⟩) k) ?_
  refine S_virtual (as := []) (rest := []) (b := 373) d_Mo_groupPoint_15 rfl (jw_Mo_letterC.jo (by decide)) lm_Mo_209 ji_Mo_letterC js_Mo_letterC (w373 _) rfl rfl rfl (Nat.le_of_ble_eq_true rfl) (by decide) (by decide) (c_Mo_letterC G u6 s9 es_u6 (by omega) hv7) (fun r u11 hq => ?_)
  obtain ⟨hr, hv12, hm13, s14, hb_s14, es_u11⟩ := hq
  rw [hr]
  clear hr r
  have hm15 := hm10.go hm13 (by intro i hi; simp only [List.mem_cons, List.not_mem_nil, or_false] at hi ⊢ <;> omega)
  show ST G mi_Mo_groupPoint 18 [(0, .ref 373), (1, .int (nI p)), (2, .ref src), (3, .int (nI n))] [] u11 0 0 _
  refine ST.lift (fun _ _ k => T_aload_n (v := .ref 373) d_Mo_groupPoint_18 rfl (Or.inr ⟨_, rfl⟩) k) ?_
  refine ST.lift (fun _ _ k => T_aload_n (v := .ref src) d_Mo_groupPoint_19 rfl (Or.inr ⟨_, rfl⟩) k) ?_
  refine ST.lift (fun _ _ k => T_iload_n d_Mo_groupPoint_20 rfl k) ?_
  refine S_virtual (as := [.ref src, .int (nI n)]) (rest := []) (b := 373) d_Mo_groupPoint_21 rfl (jw_Mo_stretch.jo (by decide)) lm_Mo_212 ji_Mo_stretch js_Mo_stretch (w373 _) rfl rfl rfl (Nat.le_of_ble_eq_true rfl) (by decide) (by decide) (c_Mo_stretch G u11 src m w_src a_src (by omega) n (by omega) s14 es_u11 (by omega) hv12) (fun r u16 hq => ?_)
  obtain ⟨hr, hv17, hm18, es_u16⟩ := hq
  rw [hr]
  clear hr r
  have hm20 := hm15.go hm18 (by intro i hi; simp only [List.mem_cons, List.not_mem_nil, or_false] at hi ⊢ <;> omega)
  show ST G mi_Mo_groupPoint 24 [(0, .ref 373), (1, .int (nI p)), (2, .ref src), (3, .int (nI n))] [] u16 0 0 _
  refine ST.lift (fun _ _ k => T_aload_n (v := .ref 373) d_Mo_groupPoint_24 rfl (Or.inr ⟨_, rfl⟩) k) ?_
  refine ST.lift (fun _ _ k => T_bipush (v := nI 12) d_Mo_groupPoint_25 (by decide) k) ?_
  refine ST.lift (fun _ _ k => T_aload_n (v := .ref 373) d_Mo_groupPoint_27 rfl (Or.inr ⟨_, rfl⟩) k) ?_
  refine S_getfield d_Mo_groupPoint_28 fg_Mo_55 (w373 _) rfl ?_
  refine ST.lift (fun _ _ k => T_iconst (v := nI 0) d_Mo_groupPoint_31 (by decide) k) ?_
  refine S_virtual (as := [.int (nI 12), .ref 383, .int (nI 0)]) (rest := []) (b := 373) d_Mo_groupPoint_32 rfl (jw_Mo_mapPart.jo (by decide)) lm_Mo_216 ji_Mo_mapPart js_Mo_mapPart (w373 _) rfl rfl rfl (Nat.le_of_ble_eq_true rfl) (by decide) (by decide) (c_Mo_mapPart G u16 12 (by omega) 383 64 (by decide) a383 (by omega) 0 (by omega)) (fun r v' hq => ?_)
  rw [hq.1, hq.2]
  clear hq r v'
  show ST G mi_Mo_groupPoint 35 [(0, .ref 373), (1, .int (nI p)), (2, .ref src), (3, .int (nI n))] [] u16 0 0 _
  refine ST.lift (fun _ _ k => T_aload_n (v := .ref 373) d_Mo_groupPoint_35 rfl (Or.inr ⟨_, rfl⟩) k) ?_
  refine ST.lift (fun _ _ k => T_bipush (v := nI 16) d_Mo_groupPoint_36 (by decide) k) ?_
  refine ST.lift (fun _ _ k => T_aload_n (v := .ref 373) d_Mo_groupPoint_38 rfl (Or.inr ⟨_, rfl⟩) k) ?_
  refine S_getfield d_Mo_groupPoint_39 fg_Mo_55 (w373 _) rfl ?_
  refine ST.lift (fun _ _ k => T_bipush (v := nI 32) d_Mo_groupPoint_42 (by decide) k) ?_
  refine S_virtual (as := [.int (nI 16), .ref 383, .int (nI 32)]) (rest := []) (b := 373) d_Mo_groupPoint_44 rfl (jw_Mo_mapPart.jo (by decide)) lm_Mo_216 ji_Mo_mapPart js_Mo_mapPart (w373 _) rfl rfl rfl (Nat.le_of_ble_eq_true rfl) (by decide) (by decide) (c_Mo_mapPart G u16 16 (by omega) 383 64 (by decide) a383 (by omega) 32 (by omega)) (fun r v' hq => ?_)
  rw [hq.1, hq.2]
  clear hq r v'
  show ST G mi_Mo_groupPoint 47 [(0, .ref 373), (1, .int (nI p)), (2, .ref src), (3, .int (nI n))] [] u16 0 0 _
  refine ST.lift (fun _ _ k => T_aload_n (v := .ref 373) d_Mo_groupPoint_47 rfl (Or.inr ⟨_, rfl⟩) k) ?_
  refine ST.lift (fun _ _ k => T_iload_n d_Mo_groupPoint_48 rfl k) ?_
  refine ST.lift (fun _ _ k => T_bipush (v := nI 12) d_Mo_groupPoint_49 (by decide) k) ?_
  refine ST.lift (fun _ _ k => T_bipush (v := nI 16) d_Mo_groupPoint_51 (by decide) k) ?_
  refine S_virtual (as := [.int (nI p), .int (nI 12), .int (nI 16)]) (rest := []) (b := 373) d_Mo_groupPoint_53 rfl (jw_Mo_sumPoint.jo (by decide)) lm_Mo_191 ji_Mo_sumPoint js_Mo_sumPoint (w373 _) rfl rfl rfl (Nat.le_of_ble_eq_true rfl) (by decide) (by decide) (c_Mo_sumPoint G u16 p (by omega) 12 (by omega) 16 (by omega)) (fun r v' hq => ?_)
  rw [hq.1, hq.2]
  clear hq r v'
  show ST G mi_Mo_groupPoint 56 [(0, .ref 373), (1, .int (nI p)), (2, .ref src), (3, .int (nI n))] [] u16 0 0 _
  exact S_vret d_Mo_groupPoint_56 rfl (by decide) (by decide) (hQ _ hv17 hm20 (es_u16.trans (congrArg nI (by omega))))
set_option maxRecDepth 100000 in
set_option maxHeartbeats 4000000 in
theorem c_Mo_userKey (G : GX) (v : Nat → Int32) (usr : Int32) (s : Nat) (es : v 67 = nI s) (hs : s ≤ 300) (hv : okv v) : CS G mi_Mo_userKey [.ref 373, .int usr] v (fun r v' => r = none ∧ okv v' ∧ mdf [67, 70, 68, 69] v v' ∧ v' 67 = nI 0) := by
  refine CS.of (by decide) (Nat.le_of_ble_eq_true rfl) ?_
  generalize hQe : (fun (r : Option Value) (v' : Nat → Int32) => r = none ∧ okv v' ∧ mdf [67, 70, 68, 69] v v' ∧ v' 67 = nI 0) = Q
  have hQ : ∀ (u : Nat → Int32) , okv u → mdf [67, 70, 68, 69] v u → u 67 = nI 0 → Q none u := by rw [← hQe]; exact fun u h1 h2 h3 => ⟨rfl, h1, h2, h3⟩
  clear hQe
  have hm : mdf [67, 70, 68, 69] v v := mdf.rf
  show ST G mi_Mo_userKey 0 [(0, .ref 373), (1, .int usr)] [] v 0 0 Q
  refine ST.lift (fun _ _ k => T_aload_n (v := .ref 373) d_Mo_userKey_0 rfl (Or.inr ⟨_, rfl⟩) k) ?_
  refine ST.lift (fun _ _ k => T_ldc2 d_Mo_userKey_1 kJ_Mo_506 k) ?_
  refine S_virtual (as := [.long (1970496882)]) (rest := []) (b := 373) d_Mo_userKey_4 rfl (jw_Mo_letters.jo (by decide)) lm_Mo_104 ji_Mo_letters js_Mo_letters (w373 _) rfl rfl rfl (Nat.le_of_ble_eq_true rfl) (by decide) (by decide) (c_Mo_letters G v (1970496882) s es (by omega) hv) (fun r u1 hq => ?_)
  obtain ⟨hr, hv2, hm3, s4, hb_s4, es_u1⟩ := hq
  rw [hr]
  clear hr r
  have hm5 := hm.go hm3 (by intro i hi; simp only [List.mem_cons, List.not_mem_nil, or_false] at hi ⊢ <;> omega)
  show ST G mi_Mo_userKey 7 [(0, .ref 373), (1, .int usr)] [] u1 0 0 _
  refine ST.lift (fun _ _ k => T_aload_n (v := .ref 373) d_Mo_userKey_7 rfl (Or.inr ⟨_, rfl⟩) k) ?_
  refine ST.lift (fun _ _ k => T_iload_n d_Mo_userKey_8 rfl k) ?_
  refine S_virtual (as := [.int usr]) (rest := []) (b := 373) d_Mo_userKey_9 rfl (jw_Mo_one.jo (by decide)) lm_Mo_11 ji_Mo_one js_Mo_one (w373 _) rfl rfl rfl (Nat.le_of_ble_eq_true rfl) (by decide) (by decide) (c_Mo_one G u1 usr s4 es_u1 (by omega) hv2) (fun r v' hq => ?_)
  rw [hq.1, hq.2]
  clear hq r v'
  show ST G mi_Mo_userKey 12 [(0, .ref 373), (1, .int usr)] [] (va_up u1 67 (nI (s4 + 1))) 0 0 _
  have hv7 := hv2.up (j := 67) (c := 4000) (k := (s4 + 1)) (by decide) (by omega)
  have hm8 := hm5.go (mdf.up (v := u1) (j := 67) (x := (nI (s4 + 1)))) (by intro i hi; simp only [List.mem_cons, List.not_mem_nil, or_false] at hi ⊢ <;> omega)
  have e_u6 : (va_up u1 67 (nI (s4 + 1))) 67 = (nI (s4 + 1)) := by simp [va_up]
  generalize va_up u1 67 (nI (s4 + 1)) = u6 at hv7 hm8 e_u6 ⊢
  refine ST.lift (fun _ _ k => T_aload_n (v := .ref 373) d_Mo_userKey_12 rfl (Or.inr ⟨_, rfl⟩) k) ?_
  refine ST.lift (fun _ _ k => T_ldc2 d_Mo_userKey_13 kJ_Mo_508 k) ?_
  refine S_virtual (as := [.long (22360159804941689)]) (rest := []) (b := 373) d_Mo_userKey_16 rfl (jw_Mo_letters.jo (by decide)) lm_Mo_104 ji_Mo_letters js_Mo_letters (w373 _) rfl rfl rfl (Nat.le_of_ble_eq_true rfl) (by decide) (by decide) (c_Mo_letters G u6 (22360159804941689) (s4 + 1) e_u6 (by omega) hv7) (fun r u9 hq => ?_)
  obtain ⟨hr, hv10, hm11, s12, hb_s12, es_u9⟩ := hq
  rw [hr]
  clear hr r
  have hm13 := hm8.go hm11 (by intro i hi; simp only [List.mem_cons, List.not_mem_nil, or_false] at hi ⊢ <;> omega)
  show ST G mi_Mo_userKey 19 [(0, .ref 373), (1, .int usr)] [] u9 0 0 _
  refine ST.lift (fun _ _ k => T_aload_n (v := .ref 373) d_Mo_userKey_19 rfl (Or.inr ⟨_, rfl⟩) k) ?_
  refine ST.lift (fun _ _ k => T_aload_n (v := .ref 373) d_Mo_userKey_20 rfl (Or.inr ⟨_, rfl⟩) k) ?_
  refine S_getfield d_Mo_userKey_21 fg_Mo_319 (w373 _) rfl ?_
  refine ST.lift (fun _ _ k => T_iconst (v := nI 0) d_Mo_userKey_24 (by decide) k) ?_
  refine ST.lift (fun _ _ k => T_bipush (v := nI 32) d_Mo_userKey_25 (by decide) k) ?_
  refine S_virtual (as := [.ref 402, .int (nI 0), .int (nI 32)]) (rest := []) (b := 373) d_Mo_userKey_27 rfl (jw_Mo_expand.jo (by decide)) lm_Mo_510 ji_Mo_expand js_Mo_expand (w373 _) rfl rfl rfl (Nat.le_of_ble_eq_true rfl) (by decide) (by decide) (c_Mo_expand_32 G u9 402 64 (by decide) a402 (by omega) 0 (by omega) s12 es_u9 (by omega) hv10) (fun r u14 hq => ?_)
  obtain ⟨hr, hv15, hm16, es_u14⟩ := hq
  rw [hr]
  clear hr r
  have hm18 := hm13.go hm16 (by intro i hi; simp only [List.mem_cons, List.not_mem_nil, or_false] at hi ⊢ <;> omega)
  show ST G mi_Mo_userKey 30 [(0, .ref 373), (1, .int usr)] [] u14 0 0 _
  refine ST.lift (fun _ _ k => T_iconst (v := nI 0) d_Mo_userKey_30 (by decide) k) ?_
  refine ST.lift (fun _ _ k => T_istore_n (L' := [(2, .int (nI 0)), (0, .ref 373), (1, .int usr)]) d_Mo_userKey_31 (by decide) rfl k) ?_
  have lp22 : ∀ (n20 k19 : Nat), 32 - k19 = n20 → 0 ≤ k19 ∧ k19 ≤ 0 + 32 → ST G mi_Mo_userKey 32 [(2, .int (nI k19)), (0, .ref 373), (1, .int usr)] [] u14 0 0 Q := by
    intro n20
    induction n20 using Nat.strongRecOn with
    | _ n20 ih21 =>
      intro k19 h23 h24
      refine ST.lift (fun _ _ k => T_iload_n d_Mo_userKey_32 rfl k) ?_
      refine ST.lift (fun _ _ k => T_bipush (v := nI 32) d_Mo_userKey_33 (by decide) k) ?_
      refine S_icmp_geN d_Mo_userKey_35 rfl (by omega) (by omega) (fun c25 => ?_) (fun c25 => ?_)
      · refine ST.lift (fun _ _ k => T_aload_n (v := .ref 373) d_Mo_userKey_56 rfl (Or.inr ⟨_, rfl⟩) k) ?_
        refine ST.lift (fun _ _ k => T_aload_n (v := .ref 373) d_Mo_userKey_57 rfl (Or.inr ⟨_, rfl⟩) k) ?_
        refine S_getfield d_Mo_userKey_58 fg_Mo_338 (w373 _) rfl ?_
        refine ST.lift (fun _ _ k => T_iconst (v := nI 0) d_Mo_userKey_61 (by decide) k) ?_
        refine ST.lift (fun _ _ k => T_bipush (v := nI 32) d_Mo_userKey_62 (by decide) k) ?_
        refine ST.lift (fun _ _ k => T_iconst (v := nI 0) d_Mo_userKey_64 (by decide) k) ?_
        refine S_virtual (as := [.ref 408, .int (nI 0), .int (nI 32), .int (nI 0)]) (rest := []) (b := 373) d_Mo_userKey_65 rfl (jw_Mo_keyOf.jo (by decide)) lm_Mo_485 ji_Mo_keyOf js_Mo_keyOf (w373 _) rfl rfl rfl (Nat.le_of_ble_eq_true rfl) (by decide) (by decide) (c_Mo_keyOf_0 G u14 408 400 (by decide) a408 (by omega) 0 (by omega) 0 es_u14 (by omega) (by omega) hv15) (fun r u27 hq => ?_)
        obtain ⟨hr, hv28, hm29, es_u27⟩ := hq
        rw [hr]
        clear hr r
        have hm31 := hm18.go hm29 (by intro i hi; simp only [List.mem_cons, List.not_mem_nil, or_false] at hi ⊢ <;> omega)
        show ST G mi_Mo_userKey 68 [(2, .int (nI k19)), (0, .ref 373), (1, .int usr)] [] u27 0 0 _
        exact S_vret d_Mo_userKey_68 rfl (by decide) (by decide) (hQ _ hv28 hm31 (es_u27.trans (congrArg nI (by omega))))
      · refine ST.lift (fun _ _ k => T_aload_n (v := .ref 373) d_Mo_userKey_38 rfl (Or.inr ⟨_, rfl⟩) k) ?_
        refine S_getfield d_Mo_userKey_39 fg_Mo_338 (w373 _) rfl ?_
        refine ST.lift (fun _ _ k => T_iload_n d_Mo_userKey_42 rfl k) ?_
        refine ST.lift (fun _ _ k => T_aload_n (v := .ref 373) d_Mo_userKey_43 rfl (Or.inr ⟨_, rfl⟩) k) ?_
        refine S_getfield d_Mo_userKey_44 fg_Mo_99 (w373 _) rfl ?_
        refine ST.lift (fun _ _ k => T_iload_n d_Mo_userKey_47 rfl k) ?_
        refine S_iaload d_Mo_userKey_48 a388 (vp_in_nI (by omega) (by omega)) (fun z32 => ?_)
        refine S_iastore d_Mo_userKey_49 (by decide) a408 (vp_in_nI (by omega) (by omega)) ?_
        refine S_iincN (a := k19) (b := 1) (L' := [(2, .int (nI (k19 + 1))), (0, .ref 373), (1, .int usr)]) d_Mo_userKey_50 (by decide) rfl rfl rfl ?_
        refine ST.lift (fun _ _ k => T_goto (tgt := 32) d_Mo_userKey_53 rfl k) ?_
        exact ih21 (32 - (k19 + 1)) (by omega) (k19 + 1)  rfl (by omega)
  exact lp22 _ 0  rfl (by omega)
set_option maxRecDepth 100000 in
set_option maxHeartbeats 4000000 in
theorem c_Mo_second (G : GX) (v : Nat → Int32) (src m : Nat) (w_src : K0 ≤ src) (a_src : aI src m) (l_src : m ≤ 4000) (pos : Nat) (b_pos : pos ≤ 2000) (n : Nat) (b_n : pos + n ≤ m ∧ n ≤ 200) (s : Nat) (es : v 67 = nI s) (hs : s ≤ 100) (hv : okv v) : CS G mi_Mo_second [.ref 373, .ref src, .int (nI pos), .int (nI n)] v (fun r v' => r = none ∧ okv v' ∧ mdf [67, 68] v v' ∧ v' 67 = nI 0) := by
  refine CS.of (by decide) (Nat.le_of_ble_eq_true rfl) ?_
  generalize hQe : (fun (r : Option Value) (v' : Nat → Int32) => r = none ∧ okv v' ∧ mdf [67, 68] v v' ∧ v' 67 = nI 0) = Q
  have hQ : ∀ (u : Nat → Int32) , okv u → mdf [67, 68] v u → u 67 = nI 0 → Q none u := by rw [← hQe]; exact fun u h1 h2 h3 => ⟨rfl, h1, h2, h3⟩
  clear hQe
  have hm : mdf [67, 68] v v := mdf.rf
  show ST G mi_Mo_second 0 [(0, .ref 373), (1, .ref src), (2, .int (nI pos)), (3, .int (nI n))] [] v 0 0 Q
  refine ST.lift (fun _ _ k => T_aload_n (v := .ref 373) d_Mo_second_0 rfl (Or.inr ⟨_, rfl⟩) k) ?_
  refine ST.lift (fun _ _ k => T_iload_n d_Mo_second_1 rfl k) ?_
  refine ST.lift (fun _ _ k => T_iconst (v := nI 2) d_Mo_second_2 (by decide) k) ?_
  refine S_virtual (as := [.int (nI n), .int (nI 2)]) (rest := []) (b := 373) d_Mo_second_3 rfl (jw_Mo_number.jo (by decide)) lm_Mo_120 ji_Mo_number js_Mo_number (w373 _) rfl rfl rfl (Nat.le_of_ble_eq_true rfl) (by decide) (by decide) (c_Mo_number_2 G v (nI n) s es (by omega) hv) (fun r u1 hq => ?_)
  obtain ⟨hr, hv2, hm3, s4, hb_s4, es_u1⟩ := hq
  rw [hr]
  clear hr r
  have hm5 := hm.go hm3 (by intro i hi; simp only [List.mem_cons, List.not_mem_nil, or_false] at hi ⊢ <;> omega)
  show ST G mi_Mo_second 6 [(0, .ref 373), (1, .ref src), (2, .int (nI pos)), (3, .int (nI n))] [] u1 0 0 _
  refine ST.lift (fun _ _ k => T_aload_n (v := .ref 373) d_Mo_second_6 rfl (Or.inr ⟨_, rfl⟩) k) ?_
  refine ST.lift (fun _ _ k => T_aload_n (v := .ref src) d_Mo_second_7 rfl (Or.inr ⟨_, rfl⟩) k) ?_
  refine ST.lift (fun _ _ k => T_iload_n d_Mo_second_8 rfl k) ?_
  refine ST.lift (fun _ _ k => T_iload_n d_Mo_second_9 rfl k) ?_
  refine S_virtual (as := [.ref src, .int (nI pos), .int (nI n)]) (rest := []) (b := 373) d_Mo_second_10 rfl (jw_Mo_bytes.jo (by decide)) lm_Mo_76 ji_Mo_bytes js_Mo_bytes (w373 _) rfl rfl rfl (Nat.le_of_ble_eq_true rfl) (by decide) (by decide) (c_Mo_bytes G u1 src m w_src a_src (by omega) pos (by omega) n (by omega) s4 es_u1 (by omega) hv2) (fun r u6 hq => ?_)
  obtain ⟨hr, hv7, hm8, s9, hb_s9, es_u6⟩ := hq
  rw [hr]
  clear hr r
  have hm10 := hm5.go hm8 (by intro i hi; simp only [List.mem_cons, List.not_mem_nil, or_false] at hi ⊢ <;> omega)
  show ST G mi_Mo_second 13 [(0, .ref 373), (1, .ref src), (2, .int (nI pos)), (3, .int (nI n))] [] u6 0 0 _
  refine ST.lift (fun _ _ k => T_aload_n (v := .ref 373) d_Mo_second_13 rfl (Or.inr ⟨_, rfl⟩) k) ?_
  refine ST.lift (fun _ _ k => T_bipush (v := nI 32) d_Mo_second_14 (by decide) k) ?_
  refine ST.lift (fun _ _ k => T_iconst (v := nI 2) d_Mo_second_16 (by decide) k) ?_
  refine S_virtual (as := [.int (nI 32), .int (nI 2)]) (rest := []) (b := 373) d_Mo_second_17 rfl (jw_Mo_number.jo (by decide)) lm_Mo_120 ji_Mo_number js_Mo_number (w373 _) rfl rfl rfl (Nat.le_of_ble_eq_true rfl) (by decide) (by decide) (c_Mo_number_2 G u6 (nI 32) s9 es_u6 (by omega) hv7) (fun r u11 hq => ?_)
  obtain ⟨hr, hv12, hm13, s14, hb_s14, es_u11⟩ := hq
  rw [hr]
  clear hr r
  have hm15 := hm10.go hm13 (by intro i hi; simp only [List.mem_cons, List.not_mem_nil, or_false] at hi ⊢ <;> omega)
  show ST G mi_Mo_second 20 [(0, .ref 373), (1, .ref src), (2, .int (nI pos)), (3, .int (nI n))] [] u11 0 0 _
  refine ST.lift (fun _ _ k => T_aload_n (v := .ref 373) d_Mo_second_20 rfl (Or.inr ⟨_, rfl⟩) k) ?_
  refine ST.lift (fun _ _ k => T_aload_n (v := .ref 373) d_Mo_second_21 rfl (Or.inr ⟨_, rfl⟩) k) ?_
  refine S_getfield d_Mo_second_22 fg_Mo_146 (w373 _) rfl ?_
  refine ST.lift (fun _ _ k => T_iconst (v := nI 0) d_Mo_second_25 (by decide) k) ?_
  refine ST.lift (fun _ _ k => T_bipush (v := nI 32) d_Mo_second_26 (by decide) k) ?_
  refine S_virtual (as := [.ref 394, .int (nI 0), .int (nI 32)]) (rest := []) (b := 373) d_Mo_second_28 rfl (jw_Mo_bytes.jo (by decide)) lm_Mo_76 ji_Mo_bytes js_Mo_bytes (w373 _) rfl rfl rfl (Nat.le_of_ble_eq_true rfl) (by decide) (by decide) (c_Mo_bytes G u11 394 32 (by decide) a394 (by omega) 0 (by omega) 32 (by omega) s14 es_u11 (by omega) hv12) (fun r u16 hq => ?_)
  obtain ⟨hr, hv17, hm18, s19, hb_s19, es_u16⟩ := hq
  rw [hr]
  clear hr r
  have hm20 := hm15.go hm18 (by intro i hi; simp only [List.mem_cons, List.not_mem_nil, or_false] at hi ⊢ <;> omega)
  show ST G mi_Mo_second 31 [(0, .ref 373), (1, .ref src), (2, .int (nI pos)), (3, .int (nI n))] [] u16 0 0 _
  refine ST.lift (fun _ _ k => T_aload_n (v := .ref 373) d_Mo_second_31 rfl (Or.inr ⟨_, rfl⟩) k) ?_
  refine ST.lift (fun _ _ k => T_ldc2 d_Mo_second_32 kJ_Mo_513 k) ?_
  refine S_virtual (as := [.long (5073707819919309413)]) (rest := []) (b := 373) d_Mo_second_35 rfl (jw_Mo_letters.jo (by decide)) lm_Mo_104 ji_Mo_letters js_Mo_letters (w373 _) rfl rfl rfl (Nat.le_of_ble_eq_true rfl) (by decide) (by decide) (c_Mo_letters G u16 (5073707819919309413) s19 es_u16 (by omega) hv17) (fun r u21 hq => ?_)
  obtain ⟨hr, hv22, hm23, s24, hb_s24, es_u21⟩ := hq
  rw [hr]
  clear hr r
  have hm25 := hm20.go hm23 (by intro i hi; simp only [List.mem_cons, List.not_mem_nil, or_false] at hi ⊢ <;> omega)
  show ST G mi_Mo_second 38 [(0, .ref 373), (1, .ref src), (2, .int (nI pos)), (3, .int (nI n))] [] u21 0 0 _
  refine ST.lift (fun _ _ k => T_aload_n (v := .ref 373) d_Mo_second_38 rfl (Or.inr ⟨_, rfl⟩) k) ?_
  refine S_virtual (as := []) (rest := []) (b := 373) d_Mo_second_39 rfl (jw_Mo_hash0.jo (by decide)) lm_Mo_80 ji_Mo_hash0 js_Mo_hash0 (w373 _) rfl rfl rfl (Nat.le_of_ble_eq_true rfl) (by decide) (by decide) (c_Mo_hash0 G u21 s24 es_u21 (by omega) hv22) (fun r u26 hq => ?_)
  obtain ⟨hr, hv27, hm28, es_u26⟩ := hq
  rw [hr]
  clear hr r
  have hm30 := hm25.go hm28 (by intro i hi; simp only [List.mem_cons, List.not_mem_nil, or_false] at hi ⊢ <;> omega)
  show ST G mi_Mo_second 42 [(0, .ref 373), (1, .ref src), (2, .int (nI pos)), (3, .int (nI n))] [] u26 0 0 _
  refine ST.lift (fun _ _ k => T_iconst (v := nI 0) d_Mo_second_42 (by decide) k) ?_
  refine ST.lift (fun _ _ k => T_istore (L' := [(4, .int (nI 0)), (0, .ref 373), (1, .ref src), (2, .int (nI pos)), (3, .int (nI n))]) d_Mo_second_43 (by decide) rfl k) ?_
  have lp34 : ∀ (n32 k31 : Nat), 64 - k31 = n32 → 0 ≤ k31 ∧ k31 ≤ 0 + 64 → ST G mi_Mo_second 45 [(4, .int (nI k31)), (0, .ref 373), (1, .ref src), (2, .int (nI pos)), (3, .int (nI n))] [] u26 0 0 Q := by
    intro n32
    induction n32 using Nat.strongRecOn with
    | _ n32 ih33 =>
      intro k31 h35 h36
      refine ST.lift (fun _ _ k => T_iload d_Mo_second_45 rfl k) ?_
      refine ST.lift (fun _ _ k => T_bipush (v := nI 64) d_Mo_second_47 (by decide) k) ?_
      refine S_icmp_geN d_Mo_second_49 rfl (by omega) (by omega) (fun c37 => ?_) (fun c37 => ?_)
      · refine ST.lift (fun _ _ k => T_aload_n (v := .ref 373) d_Mo_second_72 rfl (Or.inr ⟨_, rfl⟩) k) ?_
        refine ST.lift (fun _ _ k => T_aload_n (v := .ref 373) d_Mo_second_73 rfl (Or.inr ⟨_, rfl⟩) k) ?_
        refine S_getfield d_Mo_second_74 fg_Mo_338 (w373 _) rfl ?_
        refine ST.lift (fun _ _ k => T_iconst (v := nI 0) d_Mo_second_77 (by decide) k) ?_
        refine ST.lift (fun _ _ k => T_bipush (v := nI 64) d_Mo_second_78 (by decide) k) ?_
        refine S_virtual (as := [.ref 408, .int (nI 0), .int (nI 64)]) (rest := []) (b := 373) d_Mo_second_80 rfl (jw_Mo_bytes.jo (by decide)) lm_Mo_76 ji_Mo_bytes js_Mo_bytes (w373 _) rfl rfl rfl (Nat.le_of_ble_eq_true rfl) (by decide) (by decide) (c_Mo_bytes G u26 408 400 (by decide) a408 (by omega) 0 (by omega) 64 (by omega) 0 es_u26 (by omega) hv27) (fun r u39 hq => ?_)
        obtain ⟨hr, hv40, hm41, s42, hb_s42, es_u39⟩ := hq
        rw [hr]
        clear hr r
        have hm43 := hm30.go hm41 (by intro i hi; simp only [List.mem_cons, List.not_mem_nil, or_false] at hi ⊢ <;> omega)
        show ST G mi_Mo_second 83 [(4, .int (nI k31)), (0, .ref 373), (1, .ref src), (2, .int (nI pos)), (3, .int (nI n))] [] u39 0 0 _
        refine ST.lift (fun _ _ k => T_aload_n (v := .ref 373) d_Mo_second_83 rfl (Or.inr ⟨_, rfl⟩) k) ?_
        refine ST.lift (fun _ _ k => T_aload_n (v := .ref 373) d_Mo_second_84 rfl (Or.inr ⟨_, rfl⟩) k) ?_
        refine S_getfield d_Mo_second_85 fg_Mo_338 (w373 _) rfl ?_
        refine ST.lift (fun _ _ k => T_iconst (v := nI 0) d_Mo_second_88 (by decide) k) ?_
        refine ST.lift (fun _ _ k => T_bipush (v := nI 64) d_Mo_second_89 (by decide) k) ?_
        refine S_virtual (as := [.ref 408, .int (nI 0), .int (nI 64)]) (rest := []) (b := 373) d_Mo_second_91 rfl (jw_Mo_bytes.jo (by decide)) lm_Mo_76 ji_Mo_bytes js_Mo_bytes (w373 _) rfl rfl rfl (Nat.le_of_ble_eq_true rfl) (by decide) (by decide) (c_Mo_bytes G u39 408 400 (by decide) a408 (by omega) 0 (by omega) 64 (by omega) s42 es_u39 (by omega) hv40) (fun r u44 hq => ?_)
        obtain ⟨hr, hv45, hm46, s47, hb_s47, es_u44⟩ := hq
        rw [hr]
        clear hr r
        have hm48 := hm43.go hm46 (by intro i hi; simp only [List.mem_cons, List.not_mem_nil, or_false] at hi ⊢ <;> omega)
        show ST G mi_Mo_second 94 [(4, .int (nI k31)), (0, .ref 373), (1, .ref src), (2, .int (nI pos)), (3, .int (nI n))] [] u44 0 0 _
        refine ST.lift (fun _ _ k => T_aload_n (v := .ref 373) d_Mo_second_94 rfl (Or.inr ⟨_, rfl⟩) k) ?_
        refine S_virtual (as := []) (rest := []) (b := 373) d_Mo_second_95 rfl (jw_Mo_extract.jo (by decide)) lm_Mo_515 ji_Mo_extract js_Mo_extract (w373 _) rfl rfl rfl (Nat.le_of_ble_eq_true rfl) (by decide) (by decide) (c_Mo_extract G u44 s47 es_u44 (by omega) hv45) (fun r u49 hq => ?_)
        obtain ⟨hr, hv50, hm51, es_u49⟩ := hq
        rw [hr]
        clear hr r
        have hm53 := hm48.go hm51 (by intro i hi; simp only [List.mem_cons, List.not_mem_nil, or_false] at hi ⊢ <;> omega)
        show ST G mi_Mo_second 98 [(4, .int (nI k31)), (0, .ref 373), (1, .ref src), (2, .int (nI pos)), (3, .int (nI n))] [] u49 0 0 _
        refine ST.lift (fun _ _ k => T_iconst (v := nI 0) d_Mo_second_98 (by decide) k) ?_
        refine ST.lift (fun _ _ k => T_istore (L' := [(4, .int (nI 0)), (0, .ref 373), (1, .ref src), (2, .int (nI pos)), (3, .int (nI n))]) d_Mo_second_99 (by decide) rfl k) ?_
        have lp57 : ∀ (n55 k54 : Nat), 64 - k54 = n55 → 0 ≤ k54 ∧ k54 ≤ 0 + 64 → ST G mi_Mo_second 101 [(4, .int (nI k54)), (0, .ref 373), (1, .ref src), (2, .int (nI pos)), (3, .int (nI n))] [] u49 0 0 Q := by
          intro n55
          induction n55 using Nat.strongRecOn with
          | _ n55 ih56 =>
            intro k54 h58 h59
            refine ST.lift (fun _ _ k => T_iload d_Mo_second_101 rfl k) ?_
            refine ST.lift (fun _ _ k => T_bipush (v := nI 64) d_Mo_second_103 (by decide) k) ?_
            refine S_icmp_geN d_Mo_second_105 rfl (by omega) (by omega) (fun c60 => ?_) (fun c60 => ?_)
            · exact S_vret d_Mo_second_128 rfl (by decide) (by decide) (hQ _ hv50 hm53 (es_u49.trans (congrArg nI (by omega))))
            · refine ST.lift (fun _ _ k => T_aload_n (v := .ref 373) d_Mo_second_108 rfl (Or.inr ⟨_, rfl⟩) k) ?_
              refine S_getfield d_Mo_second_109 fg_Mo_353 (w373 _) rfl ?_
              refine ST.lift (fun _ _ k => T_iload d_Mo_second_112 rfl k) ?_
              refine ST.lift (fun _ _ k => T_aload_n (v := .ref 373) d_Mo_second_114 rfl (Or.inr ⟨_, rfl⟩) k) ?_
              refine S_getfield d_Mo_second_115 fg_Mo_55 (w373 _) rfl ?_
              refine ST.lift (fun _ _ k => T_iload d_Mo_second_118 rfl k) ?_
              refine S_iaload d_Mo_second_120 a383 (vp_in_nI (by omega) (by omega)) (fun z61 => ?_)
              refine S_iastore d_Mo_second_121 (by decide) a411 (vp_in_nI (by omega) (by omega)) ?_
              refine S_iincN (a := k54) (b := 1) (L' := [(4, .int (nI (k54 + 1))), (0, .ref 373), (1, .ref src), (2, .int (nI pos)), (3, .int (nI n))]) d_Mo_second_122 (by decide) rfl rfl rfl ?_
              refine ST.lift (fun _ _ k => T_goto (tgt := 101) d_Mo_second_125 rfl k) ?_
              exact ih56 (64 - (k54 + 1)) (by omega) (k54 + 1)  rfl (by omega)
        exact lp57 _ 0  rfl (by omega)
      · refine ST.lift (fun _ _ k => T_aload_n (v := .ref 373) d_Mo_second_52 rfl (Or.inr ⟨_, rfl⟩) k) ?_
        refine S_getfield d_Mo_second_53 fg_Mo_338 (w373 _) rfl ?_
        refine ST.lift (fun _ _ k => T_iload d_Mo_second_56 rfl k) ?_
        refine ST.lift (fun _ _ k => T_aload_n (v := .ref 373) d_Mo_second_58 rfl (Or.inr ⟨_, rfl⟩) k) ?_
        refine S_getfield d_Mo_second_59 fg_Mo_55 (w373 _) rfl ?_
        refine ST.lift (fun _ _ k => T_iload d_Mo_second_62 rfl k) ?_
        refine S_iaload d_Mo_second_64 a383 (vp_in_nI (by omega) (by omega)) (fun z62 => ?_)
        refine S_iastore d_Mo_second_65 (by decide) a408 (vp_in_nI (by omega) (by omega)) ?_
        refine S_iincN (a := k31) (b := 1) (L' := [(4, .int (nI (k31 + 1))), (0, .ref 373), (1, .ref src), (2, .int (nI pos)), (3, .int (nI n))]) d_Mo_second_66 (by decide) rfl rfl rfl ?_
        refine ST.lift (fun _ _ k => T_goto (tgt := 45) d_Mo_second_69 rfl k) ?_
        exact ih33 (64 - (k31 + 1)) (by omega) (k31 + 1)  rfl (by omega)
  exact lp34 _ 0  rfl (by omega)
set_option maxRecDepth 100000 in
set_option maxHeartbeats 4000000 in
theorem c_Mo_opens (G : GX) (v : Nat → Int32) (src m : Nat) (w_src : K0 ≤ src) (a_src : aI src m) (l_src : m ≤ 4000) (pos : Nat) (b_pos : pos + 32 ≤ m) (s : Nat) (es : v 67 = nI s) (hs : s ≤ 100) (hv : okv v) : CS G mi_Mo_opens [.ref 373, .ref src, .int (nI pos)] v (fun r v' => r = none ∧ okv v' ∧ mdf [67, 70, 68, 69] v v' ∧ v' 67 = nI 0) := by
  refine CS.of (by decide) (Nat.le_of_ble_eq_true rfl) ?_
  generalize hQe : (fun (r : Option Value) (v' : Nat → Int32) => r = none ∧ okv v' ∧ mdf [67, 70, 68, 69] v v' ∧ v' 67 = nI 0) = Q
  have hQ : ∀ (u : Nat → Int32) , okv u → mdf [67, 70, 68, 69] v u → u 67 = nI 0 → Q none u := by rw [← hQe]; exact fun u h1 h2 h3 => ⟨rfl, h1, h2, h3⟩
  clear hQe
  have hm : mdf [67, 70, 68, 69] v v := mdf.rf
  show ST G mi_Mo_opens 0 [(0, .ref 373), (1, .ref src), (2, .int (nI pos))] [] v 0 0 Q
  refine ST.lift (fun _ _ k => T_aload_n (v := .ref 373) d_Mo_opens_0 rfl (Or.inr ⟨_, rfl⟩) k) ?_
  refine ST.lift (fun _ _ k => T_aload_n (v := .ref 373) d_Mo_opens_1 rfl (Or.inr ⟨_, rfl⟩) k) ?_
  refine S_getfield d_Mo_opens_2 fg_Mo_356 (w373 _) rfl ?_
  refine ST.lift (fun _ _ k => T_iconst (v := nI 0) d_Mo_opens_5 (by decide) k) ?_
  refine ST.lift (fun _ _ k => T_bipush (v := nI 32) d_Mo_opens_6 (by decide) k) ?_
  refine S_virtual (as := [.ref 412, .int (nI 0), .int (nI 32)]) (rest := []) (b := 373) d_Mo_opens_8 rfl (jw_Mo_bytes.jo (by decide)) lm_Mo_76 ji_Mo_bytes js_Mo_bytes (w373 _) rfl rfl rfl (Nat.le_of_ble_eq_true rfl) (by decide) (by decide) (c_Mo_bytes G v 412 32 (by decide) a412 (by omega) 0 (by omega) 32 (by omega) s es (by omega) hv) (fun r u1 hq => ?_)
  obtain ⟨hr, hv2, hm3, s4, hb_s4, es_u1⟩ := hq
  rw [hr]
  clear hr r
  have hm5 := hm.go hm3 (by intro i hi; simp only [List.mem_cons, List.not_mem_nil, or_false] at hi ⊢ <;> omega)
  show ST G mi_Mo_opens 11 [(0, .ref 373), (1, .ref src), (2, .int (nI pos))] [] u1 0 0 _
  refine ST.lift (fun _ _ k => T_aload_n (v := .ref 373) d_Mo_opens_11 rfl (Or.inr ⟨_, rfl⟩) k) ?_
  refine ST.lift (fun _ _ k => T_ldc2 d_Mo_opens_12 kJ_Mo_518 k) ?_
  refine S_virtual (as := [.long (5796811627541325131)]) (rest := []) (b := 373) d_Mo_opens_15 rfl (jw_Mo_letters.jo (by decide)) lm_Mo_104 ji_Mo_letters js_Mo_letters (w373 _) rfl rfl rfl (Nat.le_of_ble_eq_true rfl) (by decide) (by decide) (c_Mo_letters G u1 (5796811627541325131) s4 es_u1 (by omega) hv2) (fun r u6 hq => ?_)
  obtain ⟨hr, hv7, hm8, s9, hb_s9, es_u6⟩ := hq
  rw [hr]
  clear hr r
  have hm10 := hm5.go hm8 (by intro i hi; simp only [List.mem_cons, List.not_mem_nil, or_false] at hi ⊢ <;> omega)
  show ST G mi_Mo_opens 18 [(0, .ref 373), (1, .ref src), (2, .int (nI pos))] [] u6 0 0 _
  refine ST.lift (fun _ _ k => T_aload_n (v := .ref 373) d_Mo_opens_18 rfl (Or.inr ⟨_, rfl⟩) k) ?_
  refine ST.lift (fun _ _ k => T_ldc2 d_Mo_opens_19 kJ_Mo_520 k) ?_
  refine S_virtual (as := [.long (25977)]) (rest := []) (b := 373) d_Mo_opens_22 rfl (jw_Mo_letters.jo (by decide)) lm_Mo_104 ji_Mo_letters js_Mo_letters (w373 _) rfl rfl rfl (Nat.le_of_ble_eq_true rfl) (by decide) (by decide) (c_Mo_letters G u6 (25977) s9 es_u6 (by omega) hv7) (fun r u11 hq => ?_)
  obtain ⟨hr, hv12, hm13, s14, hb_s14, es_u11⟩ := hq
  rw [hr]
  clear hr r
  have hm15 := hm10.go hm13 (by intro i hi; simp only [List.mem_cons, List.not_mem_nil, or_false] at hi ⊢ <;> omega)
  show ST G mi_Mo_opens 25 [(0, .ref 373), (1, .ref src), (2, .int (nI pos))] [] u11 0 0 _
  refine ST.lift (fun _ _ k => T_aload_n (v := .ref 373) d_Mo_opens_25 rfl (Or.inr ⟨_, rfl⟩) k) ?_
  refine ST.lift (fun _ _ k => T_aload_n (v := .ref 373) d_Mo_opens_26 rfl (Or.inr ⟨_, rfl⟩) k) ?_
  refine S_getfield d_Mo_opens_27 fg_Mo_353 (w373 _) rfl ?_
  refine ST.lift (fun _ _ k => T_iconst (v := nI 0) d_Mo_opens_30 (by decide) k) ?_
  refine ST.lift (fun _ _ k => T_bipush (v := nI 32) d_Mo_opens_31 (by decide) k) ?_
  refine S_virtual (as := [.ref 411, .int (nI 0), .int (nI 32)]) (rest := []) (b := 373) d_Mo_opens_33 rfl (jw_Mo_expand.jo (by decide)) lm_Mo_510 ji_Mo_expand js_Mo_expand (w373 _) rfl rfl rfl (Nat.le_of_ble_eq_true rfl) (by decide) (by decide) (c_Mo_expand_32 G u11 411 64 (by decide) a411 (by omega) 0 (by omega) s14 es_u11 (by omega) hv12) (fun r u16 hq => ?_)
  obtain ⟨hr, hv17, hm18, es_u16⟩ := hq
  rw [hr]
  clear hr r
  have hm20 := hm15.go hm18 (by intro i hi; simp only [List.mem_cons, List.not_mem_nil, or_false] at hi ⊢ <;> omega)
  show ST G mi_Mo_opens 36 [(0, .ref 373), (1, .ref src), (2, .int (nI pos))] [] u16 0 0 _
  refine ST.lift (fun _ _ k => T_iconst (v := nI 0) d_Mo_opens_36 (by decide) k) ?_
  refine ST.lift (fun _ _ k => T_istore_n (L' := [(3, .int (nI 0)), (0, .ref 373), (1, .ref src), (2, .int (nI pos))]) d_Mo_opens_37 (by decide) rfl k) ?_
  have lp24 : ∀ (n22 k21 : Nat), 32 - k21 = n22 → 0 ≤ k21 ∧ k21 ≤ 0 + 32 → ST G mi_Mo_opens 38 [(3, .int (nI k21)), (0, .ref 373), (1, .ref src), (2, .int (nI pos))] [] u16 0 0 Q := by
    intro n22
    induction n22 using Nat.strongRecOn with
    | _ n22 ih23 =>
      intro k21 h25 h26
      refine ST.lift (fun _ _ k => T_iload_n d_Mo_opens_38 rfl k) ?_
      refine ST.lift (fun _ _ k => T_bipush (v := nI 32) d_Mo_opens_39 (by decide) k) ?_
      refine S_icmp_geN d_Mo_opens_41 rfl (by omega) (by omega) (fun c27 => ?_) (fun c27 => ?_)
      · refine ST.lift (fun _ _ k => T_aload_n (v := .ref 373) d_Mo_opens_62 rfl (Or.inr ⟨_, rfl⟩) k) ?_
        refine ST.lift (fun _ _ k => T_aload_n (v := .ref 373) d_Mo_opens_63 rfl (Or.inr ⟨_, rfl⟩) k) ?_
        refine S_getfield d_Mo_opens_64 fg_Mo_338 (w373 _) rfl ?_
        refine ST.lift (fun _ _ k => T_iconst (v := nI 0) d_Mo_opens_67 (by decide) k) ?_
        refine ST.lift (fun _ _ k => T_bipush (v := nI 32) d_Mo_opens_68 (by decide) k) ?_
        refine ST.lift (fun _ _ k => T_iconst (v := nI 1) d_Mo_opens_70 (by decide) k) ?_
        refine S_virtual (as := [.ref 408, .int (nI 0), .int (nI 32), .int (nI 1)]) (rest := []) (b := 373) d_Mo_opens_71 rfl (jw_Mo_keyOf.jo (by decide)) lm_Mo_485 ji_Mo_keyOf js_Mo_keyOf (w373 _) rfl rfl rfl (Nat.le_of_ble_eq_true rfl) (by decide) (by decide) (c_Mo_keyOf_1 G u16 408 400 (by decide) a408 (by omega) 0 (by omega) 0 es_u16 (by omega) (by omega) hv17) (fun r u29 hq => ?_)
        obtain ⟨hr, hv30, hm31, es_u29⟩ := hq
        rw [hr]
        clear hr r
        have hm33 := hm20.go hm31 (by intro i hi; simp only [List.mem_cons, List.not_mem_nil, or_false] at hi ⊢ <;> omega)
        show ST G mi_Mo_opens 74 [(3, .int (nI k21)), (0, .ref 373), (1, .ref src), (2, .int (nI pos))] [] u29 0 0 _
        refine ST.lift (fun _ _ k => T_aload_n (v := .ref 373) d_Mo_opens_74 rfl (Or.inr ⟨_, rfl⟩) k) ?_
        refine ST.lift (fun _ _ k => T_aload_n (v := .ref 373) d_Mo_opens_75 rfl (Or.inr ⟨_, rfl⟩) k) ?_
        refine S_getfield d_Mo_opens_76 fg_Mo_362 (w373 _) rfl ?_
        refine ST.lift (fun _ _ k => T_iconst (v := nI 0) d_Mo_opens_79 (by decide) k) ?_
        refine S_virtual (as := [.ref 414, .int (nI 0)]) (rest := []) (b := 373) d_Mo_opens_80 rfl (jw_Mo_putScalar.jo (by decide)) lm_Mo_489 ji_Mo_putScalar js_Mo_putScalar (w373 _) rfl rfl rfl (Nat.le_of_ble_eq_true rfl) (by decide) (by decide) (c_Mo_putScalar G u29 414 16 (by decide) a414 (by omega) 0 (by omega)) (fun r v' hq => ?_)
        rw [hq.1, hq.2]
        clear hq r v'
        show ST G mi_Mo_opens 83 [(3, .int (nI k21)), (0, .ref 373), (1, .ref src), (2, .int (nI pos))] [] u29 0 0 _
        refine ST.lift (fun _ _ k => T_aload_n (v := .ref 373) d_Mo_opens_83 rfl (Or.inr ⟨_, rfl⟩) k) ?_
        refine ST.lift (fun _ _ k => T_aload_n (v := .ref 373) d_Mo_opens_84 rfl (Or.inr ⟨_, rfl⟩) k) ?_
        refine S_getfield d_Mo_opens_85 fg_Mo_359 (w373 _) rfl ?_
        refine ST.lift (fun _ _ k => T_iconst (v := nI 0) d_Mo_opens_88 (by decide) k) ?_
        refine S_virtual (as := [.ref 413, .int (nI 0)]) (rest := []) (b := 373) d_Mo_opens_89 rfl (jw_Mo_publicTo.jo (by decide)) lm_Mo_492 ji_Mo_publicTo js_Mo_publicTo (w373 _) rfl rfl rfl (Nat.le_of_ble_eq_true rfl) (by decide) (by decide) (c_Mo_publicTo G u29 413 32 (by decide) a413 (by omega) 0 (by omega)) (fun r v' hq => ?_)
        rw [hq.1, hq.2]
        clear hq r v'
        show ST G mi_Mo_opens 92 [(3, .int (nI k21)), (0, .ref 373), (1, .ref src), (2, .int (nI pos))] [] u29 0 0 _
        refine ST.lift (fun _ _ k => T_aload_n (v := .ref 373) d_Mo_opens_92 rfl (Or.inr ⟨_, rfl⟩) k) ?_
        refine ST.lift (fun _ _ k => T_aload_n (v := .ref 373) d_Mo_opens_93 rfl (Or.inr ⟨_, rfl⟩) k) ?_
        refine S_getfield d_Mo_opens_94 fg_Mo_356 (w373 _) rfl ?_
        refine ST.lift (fun _ _ k => T_iconst (v := nI 0) d_Mo_opens_97 (by decide) k) ?_
        refine ST.lift (fun _ _ k => T_bipush (v := nI 32) d_Mo_opens_98 (by decide) k) ?_
        refine S_virtual (as := [.ref 412, .int (nI 0), .int (nI 32)]) (rest := []) (b := 373) d_Mo_opens_100 rfl (jw_Mo_bytes.jo (by decide)) lm_Mo_76 ji_Mo_bytes js_Mo_bytes (w373 _) rfl rfl rfl (Nat.le_of_ble_eq_true rfl) (by decide) (by decide) (c_Mo_bytes G u29 412 32 (by decide) a412 (by omega) 0 (by omega) 32 (by omega) 0 es_u29 (by omega) hv30) (fun r u34 hq => ?_)
        obtain ⟨hr, hv35, hm36, s37, hb_s37, es_u34⟩ := hq
        rw [hr]
        clear hr r
        have hm38 := hm33.go hm36 (by intro i hi; simp only [List.mem_cons, List.not_mem_nil, or_false] at hi ⊢ <;> omega)
        show ST G mi_Mo_opens 103 [(3, .int (nI k21)), (0, .ref 373), (1, .ref src), (2, .int (nI pos))] [] u34 0 0 _
        refine ST.lift (fun _ _ k => T_aload_n (v := .ref 373) d_Mo_opens_103 rfl (Or.inr ⟨_, rfl⟩) k) ?_
        refine ST.lift (fun _ _ k => T_ldc2 d_Mo_opens_104 kJ_Mo_522 k) ?_
        refine S_virtual (as := [.long (5005874609786211173)]) (rest := []) (b := 373) d_Mo_opens_107 rfl (jw_Mo_letters.jo (by decide)) lm_Mo_104 ji_Mo_letters js_Mo_letters (w373 _) rfl rfl rfl (Nat.le_of_ble_eq_true rfl) (by decide) (by decide) (c_Mo_letters G u34 (5005874609786211173) s37 es_u34 (by omega) hv35) (fun r u39 hq => ?_)
        obtain ⟨hr, hv40, hm41, s42, hb_s42, es_u39⟩ := hq
        rw [hr]
        clear hr r
        have hm43 := hm38.go hm41 (by intro i hi; simp only [List.mem_cons, List.not_mem_nil, or_false] at hi ⊢ <;> omega)
        show ST G mi_Mo_opens 110 [(3, .int (nI k21)), (0, .ref 373), (1, .ref src), (2, .int (nI pos))] [] u39 0 0 _
        refine ST.lift (fun _ _ k => T_aload_n (v := .ref 373) d_Mo_opens_110 rfl (Or.inr ⟨_, rfl⟩) k) ?_
        refine ST.lift (fun _ _ k => T_ldc2 d_Mo_opens_111 kJ_Mo_524 k) ?_
        refine S_virtual (as := [.long (121)]) (rest := []) (b := 373) d_Mo_opens_114 rfl (jw_Mo_letters.jo (by decide)) lm_Mo_104 ji_Mo_letters js_Mo_letters (w373 _) rfl rfl rfl (Nat.le_of_ble_eq_true rfl) (by decide) (by decide) (c_Mo_letters G u39 (121) s42 es_u39 (by omega) hv40) (fun r u44 hq => ?_)
        obtain ⟨hr, hv45, hm46, s47, hb_s47, es_u44⟩ := hq
        rw [hr]
        clear hr r
        have hm48 := hm43.go hm46 (by intro i hi; simp only [List.mem_cons, List.not_mem_nil, or_false] at hi ⊢ <;> omega)
        show ST G mi_Mo_opens 117 [(3, .int (nI k21)), (0, .ref 373), (1, .ref src), (2, .int (nI pos))] [] u44 0 0 _
        refine ST.lift (fun _ _ k => T_aload_n (v := .ref 373) d_Mo_opens_117 rfl (Or.inr ⟨_, rfl⟩) k) ?_
        refine ST.lift (fun _ _ k => T_aload_n (v := .ref 373) d_Mo_opens_118 rfl (Or.inr ⟨_, rfl⟩) k) ?_
        refine S_getfield d_Mo_opens_119 fg_Mo_353 (w373 _) rfl ?_
        refine ST.lift (fun _ _ k => T_iconst (v := nI 0) d_Mo_opens_122 (by decide) k) ?_
        refine ST.lift (fun _ _ k => T_bipush (v := nI 64) d_Mo_opens_123 (by decide) k) ?_
        refine S_virtual (as := [.ref 411, .int (nI 0), .int (nI 64)]) (rest := []) (b := 373) d_Mo_opens_125 rfl (jw_Mo_expand.jo (by decide)) lm_Mo_510 ji_Mo_expand js_Mo_expand (w373 _) rfl rfl rfl (Nat.le_of_ble_eq_true rfl) (by decide) (by decide) (c_Mo_expand_64 G u44 411 64 (by decide) a411 (by omega) 0 (by omega) s47 es_u44 (by omega) hv45) (fun r u49 hq => ?_)
        obtain ⟨hr, hv50, hm51, es_u49⟩ := hq
        rw [hr]
        clear hr r
        have hm53 := hm48.go hm51 (by intro i hi; simp only [List.mem_cons, List.not_mem_nil, or_false] at hi ⊢ <;> omega)
        show ST G mi_Mo_opens 128 [(3, .int (nI k21)), (0, .ref 373), (1, .ref src), (2, .int (nI pos))] [] u49 0 0 _
        refine ST.lift (fun _ _ k => T_iconst (v := nI 0) d_Mo_opens_128 (by decide) k) ?_
        refine ST.lift (fun _ _ k => T_istore_n (L' := [(3, .int (nI 0)), (0, .ref 373), (1, .ref src), (2, .int (nI pos))]) d_Mo_opens_129 (by decide) rfl k) ?_
        have lp57 : ∀ (n55 k54 : Nat), 64 - k54 = n55 → 0 ≤ k54 ∧ k54 ≤ 0 + 64 → ST G mi_Mo_opens 130 [(3, .int (nI k54)), (0, .ref 373), (1, .ref src), (2, .int (nI pos))] [] u49 0 0 Q := by
          intro n55
          induction n55 using Nat.strongRecOn with
          | _ n55 ih56 =>
            intro k54 h58 h59
            refine ST.lift (fun _ _ k => T_iload_n d_Mo_opens_130 rfl k) ?_
            refine ST.lift (fun _ _ k => T_bipush (v := nI 64) d_Mo_opens_131 (by decide) k) ?_
            refine S_icmp_geN d_Mo_opens_133 rfl (by omega) (by omega) (fun c60 => ?_) (fun c60 => ?_)
            · refine ST.lift (fun _ _ k => T_aload_n (v := .ref 373) d_Mo_opens_154 rfl (Or.inr ⟨_, rfl⟩) k) ?_
              refine ST.lift (fun _ _ k => T_aload_n (v := .ref 373) d_Mo_opens_155 rfl (Or.inr ⟨_, rfl⟩) k) ?_
              refine S_getfield d_Mo_opens_156 fg_Mo_356 (w373 _) rfl ?_
              refine ST.lift (fun _ _ k => T_iconst (v := nI 0) d_Mo_opens_159 (by decide) k) ?_
              refine ST.lift (fun _ _ k => T_bipush (v := nI 32) d_Mo_opens_160 (by decide) k) ?_
              refine S_virtual (as := [.ref 412, .int (nI 0), .int (nI 32)]) (rest := []) (b := 373) d_Mo_opens_162 rfl (jw_Mo_bytes.jo (by decide)) lm_Mo_76 ji_Mo_bytes js_Mo_bytes (w373 _) rfl rfl rfl (Nat.le_of_ble_eq_true rfl) (by decide) (by decide) (c_Mo_bytes G u49 412 32 (by decide) a412 (by omega) 0 (by omega) 32 (by omega) 0 es_u49 (by omega) hv50) (fun r u62 hq => ?_)
              obtain ⟨hr, hv63, hm64, s65, hb_s65, es_u62⟩ := hq
              rw [hr]
              clear hr r
              have hm66 := hm53.go hm64 (by intro i hi; simp only [List.mem_cons, List.not_mem_nil, or_false] at hi ⊢ <;> omega)
              show ST G mi_Mo_opens 165 [(3, .int (nI k54)), (0, .ref 373), (1, .ref src), (2, .int (nI pos))] [] u62 0 0 _
              refine ST.lift (fun _ _ k => T_aload_n (v := .ref 373) d_Mo_opens_165 rfl (Or.inr ⟨_, rfl⟩) k) ?_
              refine ST.lift (fun _ _ k => T_ldc2 d_Mo_opens_166 kJ_Mo_526 k) ?_
              refine S_virtual (as := [.long (18425016312620409)]) (rest := []) (b := 373) d_Mo_opens_169 rfl (jw_Mo_letters.jo (by decide)) lm_Mo_104 ji_Mo_letters js_Mo_letters (w373 _) rfl rfl rfl (Nat.le_of_ble_eq_true rfl) (by decide) (by decide) (c_Mo_letters G u62 (18425016312620409) s65 es_u62 (by omega) hv63) (fun r u67 hq => ?_)
              obtain ⟨hr, hv68, hm69, s70, hb_s70, es_u67⟩ := hq
              rw [hr]
              clear hr r
              have hm71 := hm66.go hm69 (by intro i hi; simp only [List.mem_cons, List.not_mem_nil, or_false] at hi ⊢ <;> omega)
              show ST G mi_Mo_opens 172 [(3, .int (nI k54)), (0, .ref 373), (1, .ref src), (2, .int (nI pos))] [] u67 0 0 _
              refine ST.lift (fun _ _ k => T_aload_n (v := .ref 373) d_Mo_opens_172 rfl (Or.inr ⟨_, rfl⟩) k) ?_
              refine ST.lift (fun _ _ k => T_aload_n (v := .ref 373) d_Mo_opens_173 rfl (Or.inr ⟨_, rfl⟩) k) ?_
              refine S_getfield d_Mo_opens_174 fg_Mo_353 (w373 _) rfl ?_
              refine ST.lift (fun _ _ k => T_iconst (v := nI 0) d_Mo_opens_177 (by decide) k) ?_
              refine ST.lift (fun _ _ k => T_bipush (v := nI 64) d_Mo_opens_178 (by decide) k) ?_
              refine S_virtual (as := [.ref 411, .int (nI 0), .int (nI 64)]) (rest := []) (b := 373) d_Mo_opens_180 rfl (jw_Mo_expand.jo (by decide)) lm_Mo_510 ji_Mo_expand js_Mo_expand (w373 _) rfl rfl rfl (Nat.le_of_ble_eq_true rfl) (by decide) (by decide) (c_Mo_expand_64 G u67 411 64 (by decide) a411 (by omega) 0 (by omega) s70 es_u67 (by omega) hv68) (fun r u72 hq => ?_)
              obtain ⟨hr, hv73, hm74, es_u72⟩ := hq
              rw [hr]
              clear hr r
              have hm76 := hm71.go hm74 (by intro i hi; simp only [List.mem_cons, List.not_mem_nil, or_false] at hi ⊢ <;> omega)
              show ST G mi_Mo_opens 183 [(3, .int (nI k54)), (0, .ref 373), (1, .ref src), (2, .int (nI pos))] [] u72 0 0 _
              refine ST.lift (fun _ _ k => T_iconst (v := nI 0) d_Mo_opens_183 (by decide) k) ?_
              refine ST.lift (fun _ _ k => T_istore_n (L' := [(3, .int (nI 0)), (0, .ref 373), (1, .ref src), (2, .int (nI pos))]) d_Mo_opens_184 (by decide) rfl k) ?_
              have lp80 : ∀ (n78 k77 : Nat), 64 - k77 = n78 → 0 ≤ k77 ∧ k77 ≤ 0 + 64 → ST G mi_Mo_opens 185 [(3, .int (nI k77)), (0, .ref 373), (1, .ref src), (2, .int (nI pos))] [] u72 0 0 Q := by
                intro n78
                induction n78 using Nat.strongRecOn with
                | _ n78 ih79 =>
                  intro k77 h81 h82
                  refine ST.lift (fun _ _ k => T_iload_n d_Mo_opens_185 rfl k) ?_
                  refine ST.lift (fun _ _ k => T_bipush (v := nI 64) d_Mo_opens_186 (by decide) k) ?_
                  refine S_icmp_geN d_Mo_opens_188 rfl (by omega) (by omega) (fun c83 => ?_) (fun c83 => ?_)
                  · refine ST.lift (fun _ _ k => T_aload_n (v := .ref 373) d_Mo_opens_209 rfl (Or.inr ⟨_, rfl⟩) k) ?_
                    refine ST.lift (fun _ _ k => T_aload_n (v := .ref 373) d_Mo_opens_210 rfl (Or.inr ⟨_, rfl⟩) k) ?_
                    refine S_getfield d_Mo_opens_211 fg_Mo_356 (w373 _) rfl ?_
                    refine ST.lift (fun _ _ k => T_iconst (v := nI 0) d_Mo_opens_214 (by decide) k) ?_
                    refine ST.lift (fun _ _ k => T_bipush (v := nI 32) d_Mo_opens_215 (by decide) k) ?_
                    refine S_virtual (as := [.ref 412, .int (nI 0), .int (nI 32)]) (rest := []) (b := 373) d_Mo_opens_217 rfl (jw_Mo_bytes.jo (by decide)) lm_Mo_76 ji_Mo_bytes js_Mo_bytes (w373 _) rfl rfl rfl (Nat.le_of_ble_eq_true rfl) (by decide) (by decide) (c_Mo_bytes G u72 412 32 (by decide) a412 (by omega) 0 (by omega) 32 (by omega) 0 es_u72 (by omega) hv73) (fun r u85 hq => ?_)
                    obtain ⟨hr, hv86, hm87, s88, hb_s88, es_u85⟩ := hq
                    rw [hr]
                    clear hr r
                    have hm89 := hm76.go hm87 (by intro i hi; simp only [List.mem_cons, List.not_mem_nil, or_false] at hi ⊢ <;> omega)
                    show ST G mi_Mo_opens 220 [(3, .int (nI k77)), (0, .ref 373), (1, .ref src), (2, .int (nI pos))] [] u85 0 0 _
                    refine ST.lift (fun _ _ k => T_aload_n (v := .ref 373) d_Mo_opens_220 rfl (Or.inr ⟨_, rfl⟩) k) ?_
                    refine ST.lift (fun _ _ k => T_aload_n (v := .ref src) d_Mo_opens_221 rfl (Or.inr ⟨_, rfl⟩) k) ?_
                    refine ST.lift (fun _ _ k => T_iload_n d_Mo_opens_222 rfl k) ?_
                    refine ST.lift (fun _ _ k => T_bipush (v := nI 32) d_Mo_opens_223 (by decide) k) ?_
                    refine S_virtual (as := [.ref src, .int (nI pos), .int (nI 32)]) (rest := []) (b := 373) d_Mo_opens_225 rfl (jw_Mo_bytes.jo (by decide)) lm_Mo_76 ji_Mo_bytes js_Mo_bytes (w373 _) rfl rfl rfl (Nat.le_of_ble_eq_true rfl) (by decide) (by decide) (c_Mo_bytes G u85 src m w_src a_src (by omega) pos (by omega) 32 (by omega) s88 es_u85 (by omega) hv86) (fun r u90 hq => ?_)
                    obtain ⟨hr, hv91, hm92, s93, hb_s93, es_u90⟩ := hq
                    rw [hr]
                    clear hr r
                    have hm94 := hm89.go hm92 (by intro i hi; simp only [List.mem_cons, List.not_mem_nil, or_false] at hi ⊢ <;> omega)
                    show ST G mi_Mo_opens 228 [(3, .int (nI k77)), (0, .ref 373), (1, .ref src), (2, .int (nI pos))] [] u90 0 0 _
                    refine ST.lift (fun _ _ k => T_aload_n (v := .ref 373) d_Mo_opens_228 rfl (Or.inr ⟨_, rfl⟩) k) ?_
                    refine ST.lift (fun _ _ k => T_bipush (v := nI 32) d_Mo_opens_229 (by decide) k) ?_
                    refine ST.lift (fun _ _ k => T_iconst (v := nI 2) d_Mo_opens_231 (by decide) k) ?_
                    refine S_virtual (as := [.int (nI 32), .int (nI 2)]) (rest := []) (b := 373) d_Mo_opens_232 rfl (jw_Mo_number.jo (by decide)) lm_Mo_120 ji_Mo_number js_Mo_number (w373 _) rfl rfl rfl (Nat.le_of_ble_eq_true rfl) (by decide) (by decide) (c_Mo_number_2 G u90 (nI 32) s93 es_u90 (by omega) hv91) (fun r u95 hq => ?_)
                    obtain ⟨hr, hv96, hm97, s98, hb_s98, es_u95⟩ := hq
                    rw [hr]
                    clear hr r
                    have hm99 := hm94.go hm97 (by intro i hi; simp only [List.mem_cons, List.not_mem_nil, or_false] at hi ⊢ <;> omega)
                    show ST G mi_Mo_opens 235 [(3, .int (nI k77)), (0, .ref 373), (1, .ref src), (2, .int (nI pos))] [] u95 0 0 _
                    refine ST.lift (fun _ _ k => T_aload_n (v := .ref 373) d_Mo_opens_235 rfl (Or.inr ⟨_, rfl⟩) k) ?_
                    refine ST.lift (fun _ _ k => T_aload_n (v := .ref src) d_Mo_opens_236 rfl (Or.inr ⟨_, rfl⟩) k) ?_
                    refine ST.lift (fun _ _ k => T_iload_n d_Mo_opens_237 rfl k) ?_
                    refine ST.lift (fun _ _ k => T_bipush (v := nI 32) d_Mo_opens_238 (by decide) k) ?_
                    refine S_virtual (as := [.ref src, .int (nI pos), .int (nI 32)]) (rest := []) (b := 373) d_Mo_opens_240 rfl (jw_Mo_bytes.jo (by decide)) lm_Mo_76 ji_Mo_bytes js_Mo_bytes (w373 _) rfl rfl rfl (Nat.le_of_ble_eq_true rfl) (by decide) (by decide) (c_Mo_bytes G u95 src m w_src a_src (by omega) pos (by omega) 32 (by omega) s98 es_u95 (by omega) hv96) (fun r u100 hq => ?_)
                    obtain ⟨hr, hv101, hm102, s103, hb_s103, es_u100⟩ := hq
                    rw [hr]
                    clear hr r
                    have hm104 := hm99.go hm102 (by intro i hi; simp only [List.mem_cons, List.not_mem_nil, or_false] at hi ⊢ <;> omega)
                    show ST G mi_Mo_opens 243 [(3, .int (nI k77)), (0, .ref 373), (1, .ref src), (2, .int (nI pos))] [] u100 0 0 _
                    refine ST.lift (fun _ _ k => T_aload_n (v := .ref 373) d_Mo_opens_243 rfl (Or.inr ⟨_, rfl⟩) k) ?_
                    refine ST.lift (fun _ _ k => T_bipush (v := nI 32) d_Mo_opens_244 (by decide) k) ?_
                    refine ST.lift (fun _ _ k => T_iconst (v := nI 2) d_Mo_opens_246 (by decide) k) ?_
                    refine S_virtual (as := [.int (nI 32), .int (nI 2)]) (rest := []) (b := 373) d_Mo_opens_247 rfl (jw_Mo_number.jo (by decide)) lm_Mo_120 ji_Mo_number js_Mo_number (w373 _) rfl rfl rfl (Nat.le_of_ble_eq_true rfl) (by decide) (by decide) (c_Mo_number_2 G u100 (nI 32) s103 es_u100 (by omega) hv101) (fun r u105 hq => ?_)
                    obtain ⟨hr, hv106, hm107, s108, hb_s108, es_u105⟩ := hq
                    rw [hr]
                    clear hr r
                    have hm109 := hm104.go hm107 (by intro i hi; simp only [List.mem_cons, List.not_mem_nil, or_false] at hi ⊢ <;> omega)
                    show ST G mi_Mo_opens 250 [(3, .int (nI k77)), (0, .ref 373), (1, .ref src), (2, .int (nI pos))] [] u105 0 0 _
                    refine ST.lift (fun _ _ k => T_aload_n (v := .ref 373) d_Mo_opens_250 rfl (Or.inr ⟨_, rfl⟩) k) ?_
                    refine ST.lift (fun _ _ k => T_aload_n (v := .ref 373) d_Mo_opens_251 rfl (Or.inr ⟨_, rfl⟩) k) ?_
                    refine S_getfield d_Mo_opens_252 fg_Mo_359 (w373 _) rfl ?_
                    refine ST.lift (fun _ _ k => T_iconst (v := nI 0) d_Mo_opens_255 (by decide) k) ?_
                    refine ST.lift (fun _ _ k => T_bipush (v := nI 32) d_Mo_opens_256 (by decide) k) ?_
                    refine S_virtual (as := [.ref 413, .int (nI 0), .int (nI 32)]) (rest := []) (b := 373) d_Mo_opens_258 rfl (jw_Mo_bytes.jo (by decide)) lm_Mo_76 ji_Mo_bytes js_Mo_bytes (w373 _) rfl rfl rfl (Nat.le_of_ble_eq_true rfl) (by decide) (by decide) (c_Mo_bytes G u105 413 32 (by decide) a413 (by omega) 0 (by omega) 32 (by omega) s108 es_u105 (by omega) hv106) (fun r u110 hq => ?_)
                    obtain ⟨hr, hv111, hm112, s113, hb_s113, es_u110⟩ := hq
                    rw [hr]
                    clear hr r
                    have hm114 := hm109.go hm112 (by intro i hi; simp only [List.mem_cons, List.not_mem_nil, or_false] at hi ⊢ <;> omega)
                    show ST G mi_Mo_opens 261 [(3, .int (nI k77)), (0, .ref 373), (1, .ref src), (2, .int (nI pos))] [] u110 0 0 _
                    refine ST.lift (fun _ _ k => T_aload_n (v := .ref 373) d_Mo_opens_261 rfl (Or.inr ⟨_, rfl⟩) k) ?_
                    refine ST.lift (fun _ _ k => T_aload_n (v := .ref 373) d_Mo_opens_262 rfl (Or.inr ⟨_, rfl⟩) k) ?_
                    refine S_getfield d_Mo_opens_263 fg_Mo_338 (w373 _) rfl ?_
                    refine ST.lift (fun _ _ k => T_iconst (v := nI 0) d_Mo_opens_266 (by decide) k) ?_
                    refine ST.lift (fun _ _ k => T_bipush (v := nI 64) d_Mo_opens_267 (by decide) k) ?_
                    refine S_virtual (as := [.ref 408, .int (nI 0), .int (nI 64)]) (rest := []) (b := 373) d_Mo_opens_269 rfl (jw_Mo_mac.jo (by decide)) lm_Mo_90 ji_Mo_mac js_Mo_mac (w373 _) rfl rfl rfl (Nat.le_of_ble_eq_true rfl) (by decide) (by decide) (c_Mo_mac G u110 408 400 (by decide) a408 (by omega) 0 (by omega) s113 es_u110 (by omega) hv111) (fun r u115 hq => ?_)
                    obtain ⟨hr, hv116, hm117, es_u115⟩ := hq
                    rw [hr]
                    clear hr r
                    have hm119 := hm114.go hm117 (by intro i hi; simp only [List.mem_cons, List.not_mem_nil, or_false] at hi ⊢ <;> omega)
                    show ST G mi_Mo_opens 272 [(3, .int (nI k77)), (0, .ref 373), (1, .ref src), (2, .int (nI pos))] [] u115 0 0 _
                    refine ST.lift (fun _ _ k => T_iconst (v := nI 0) d_Mo_opens_272 (by decide) k) ?_
                    refine ST.lift (fun _ _ k => T_istore_n (L' := [(3, .int (nI 0)), (0, .ref 373), (1, .ref src), (2, .int (nI pos))]) d_Mo_opens_273 (by decide) rfl k) ?_
                    have lp123 : ∀ (n121 k120 : Nat), 64 - k120 = n121 → 0 ≤ k120 ∧ k120 ≤ 0 + 64 → ST G mi_Mo_opens 274 [(3, .int (nI k120)), (0, .ref 373), (1, .ref src), (2, .int (nI pos))] [] u115 0 0 Q := by
                      intro n121
                      induction n121 using Nat.strongRecOn with
                      | _ n121 ih122 =>
                        intro k120 h124 h125
                        refine ST.lift (fun _ _ k => T_iload_n d_Mo_opens_274 rfl k) ?_
                        refine ST.lift (fun _ _ k => T_bipush (v := nI 64) d_Mo_opens_275 (by decide) k) ?_
                        refine S_icmp_geN d_Mo_opens_277 rfl (by omega) (by omega) (fun c126 => ?_) (fun c126 => ?_)
                        · exact S_vret d_Mo_opens_298 rfl (by decide) (by decide) (hQ _ hv116 hm119 (es_u115.trans (congrArg nI (by omega))))
                        · refine ST.lift (fun _ _ k => T_aload_n (v := .ref 373) d_Mo_opens_280 rfl (Or.inr ⟨_, rfl⟩) k) ?_
                          refine S_getfield d_Mo_opens_281 fg_Mo_365 (w373 _) rfl ?_
                          refine ST.lift (fun _ _ k => T_iload_n d_Mo_opens_284 rfl k) ?_
                          refine ST.lift (fun _ _ k => T_aload_n (v := .ref 373) d_Mo_opens_285 rfl (Or.inr ⟨_, rfl⟩) k) ?_
                          refine S_getfield d_Mo_opens_286 fg_Mo_55 (w373 _) rfl ?_
                          refine ST.lift (fun _ _ k => T_iload_n d_Mo_opens_289 rfl k) ?_
                          refine S_iaload d_Mo_opens_290 a383 (vp_in_nI (by omega) (by omega)) (fun z127 => ?_)
                          refine S_iastore d_Mo_opens_291 (by decide) a415 (vp_in_nI (by omega) (by omega)) ?_
                          refine S_iincN (a := k120) (b := 1) (L' := [(3, .int (nI (k120 + 1))), (0, .ref 373), (1, .ref src), (2, .int (nI pos))]) d_Mo_opens_292 (by decide) rfl rfl rfl ?_
                          refine ST.lift (fun _ _ k => T_goto (tgt := 274) d_Mo_opens_295 rfl k) ?_
                          exact ih122 (64 - (k120 + 1)) (by omega) (k120 + 1)  rfl (by omega)
                    exact lp123 _ 0  rfl (by omega)
                  · refine ST.lift (fun _ _ k => T_aload_n (v := .ref 373) d_Mo_opens_191 rfl (Or.inr ⟨_, rfl⟩) k) ?_
                    refine S_getfield d_Mo_opens_192 fg_Mo_338 (w373 _) rfl ?_
                    refine ST.lift (fun _ _ k => T_iload_n d_Mo_opens_195 rfl k) ?_
                    refine ST.lift (fun _ _ k => T_aload_n (v := .ref 373) d_Mo_opens_196 rfl (Or.inr ⟨_, rfl⟩) k) ?_
                    refine S_getfield d_Mo_opens_197 fg_Mo_99 (w373 _) rfl ?_
                    refine ST.lift (fun _ _ k => T_iload_n d_Mo_opens_200 rfl k) ?_
                    refine S_iaload d_Mo_opens_201 a388 (vp_in_nI (by omega) (by omega)) (fun z128 => ?_)
                    refine S_iastore d_Mo_opens_202 (by decide) a408 (vp_in_nI (by omega) (by omega)) ?_
                    refine S_iincN (a := k77) (b := 1) (L' := [(3, .int (nI (k77 + 1))), (0, .ref 373), (1, .ref src), (2, .int (nI pos))]) d_Mo_opens_203 (by decide) rfl rfl rfl ?_
                    refine ST.lift (fun _ _ k => T_goto (tgt := 185) d_Mo_opens_206 rfl k) ?_
                    exact ih79 (64 - (k77 + 1)) (by omega) (k77 + 1)  rfl (by omega)
              exact lp80 _ 0  rfl (by omega)
            · refine ST.lift (fun _ _ k => T_aload_n (v := .ref 373) d_Mo_opens_136 rfl (Or.inr ⟨_, rfl⟩) k) ?_
              refine S_getfield d_Mo_opens_137 fg_Mo_368 (w373 _) rfl ?_
              refine ST.lift (fun _ _ k => T_iload_n d_Mo_opens_140 rfl k) ?_
              refine ST.lift (fun _ _ k => T_aload_n (v := .ref 373) d_Mo_opens_141 rfl (Or.inr ⟨_, rfl⟩) k) ?_
              refine S_getfield d_Mo_opens_142 fg_Mo_99 (w373 _) rfl ?_
              refine ST.lift (fun _ _ k => T_iload_n d_Mo_opens_145 rfl k) ?_
              refine S_iaload d_Mo_opens_146 a388 (vp_in_nI (by omega) (by omega)) (fun z129 => ?_)
              refine S_iastore d_Mo_opens_147 (by decide) a416 (vp_in_nI (by omega) (by omega)) ?_
              refine S_iincN (a := k54) (b := 1) (L' := [(3, .int (nI (k54 + 1))), (0, .ref 373), (1, .ref src), (2, .int (nI pos))]) d_Mo_opens_148 (by decide) rfl rfl rfl ?_
              refine ST.lift (fun _ _ k => T_goto (tgt := 130) d_Mo_opens_151 rfl k) ?_
              exact ih56 (64 - (k54 + 1)) (by omega) (k54 + 1)  rfl (by omega)
        exact lp57 _ 0  rfl (by omega)
      · refine ST.lift (fun _ _ k => T_aload_n (v := .ref 373) d_Mo_opens_44 rfl (Or.inr ⟨_, rfl⟩) k) ?_
        refine S_getfield d_Mo_opens_45 fg_Mo_338 (w373 _) rfl ?_
        refine ST.lift (fun _ _ k => T_iload_n d_Mo_opens_48 rfl k) ?_
        refine ST.lift (fun _ _ k => T_aload_n (v := .ref 373) d_Mo_opens_49 rfl (Or.inr ⟨_, rfl⟩) k) ?_
        refine S_getfield d_Mo_opens_50 fg_Mo_99 (w373 _) rfl ?_
        refine ST.lift (fun _ _ k => T_iload_n d_Mo_opens_53 rfl k) ?_
        refine S_iaload d_Mo_opens_54 a388 (vp_in_nI (by omega) (by omega)) (fun z130 => ?_)
        refine S_iastore d_Mo_opens_55 (by decide) a408 (vp_in_nI (by omega) (by omega)) ?_
        refine S_iincN (a := k21) (b := 1) (L' := [(3, .int (nI (k21 + 1))), (0, .ref 373), (1, .ref src), (2, .int (nI pos))]) d_Mo_opens_56 (by decide) rfl rfl rfl ?_
        refine ST.lift (fun _ _ k => T_goto (tgt := 38) d_Mo_opens_59 rfl k) ?_
        exact ih23 (32 - (k21 + 1)) (by omega) (k21 + 1)  rfl (by omega)
  exact lp24 _ 0  rfl (by omega)
set_option maxRecDepth 100000 in
set_option maxHeartbeats 4000000 in
theorem c_Mo_maskOf (G : GX) (v : Nat → Int32) (s : Nat) (es : v 67 = nI s) (hs : s ≤ 100) (hv : okv v) : CS G mi_Mo_maskOf [.ref 373] v (fun r v' => r = none ∧ okv v' ∧ mdf [67, 68, 69] v v' ∧ v' 67 = nI 0) := by
  refine CS.of (by decide) (Nat.le_of_ble_eq_true rfl) ?_
  generalize hQe : (fun (r : Option Value) (v' : Nat → Int32) => r = none ∧ okv v' ∧ mdf [67, 68, 69] v v' ∧ v' 67 = nI 0) = Q
  have hQ : ∀ (u : Nat → Int32) , okv u → mdf [67, 68, 69] v u → u 67 = nI 0 → Q none u := by rw [← hQe]; exact fun u h1 h2 h3 => ⟨rfl, h1, h2, h3⟩
  clear hQe
  have hm : mdf [67, 68, 69] v v := mdf.rf
  show ST G mi_Mo_maskOf 0 [(0, .ref 373)] [] v 0 0 Q
  refine ST.lift (fun _ _ k => T_aload_n (v := .ref 373) d_Mo_maskOf_0 rfl (Or.inr ⟨_, rfl⟩) k) ?_
  refine ST.lift (fun _ _ k => T_ldc2 d_Mo_maskOf_1 kJ_Mo_528 k) ?_
  refine S_virtual (as := [.long (5575864718828922699)]) (rest := []) (b := 373) d_Mo_maskOf_4 rfl (jw_Mo_letters.jo (by decide)) lm_Mo_104 ji_Mo_letters js_Mo_letters (w373 _) rfl rfl rfl (Nat.le_of_ble_eq_true rfl) (by decide) (by decide) (c_Mo_letters G v (5575864718828922699) s es (by omega) hv) (fun r u1 hq => ?_)
  obtain ⟨hr, hv2, hm3, s4, hb_s4, es_u1⟩ := hq
  rw [hr]
  clear hr r
  have hm5 := hm.go hm3 (by intro i hi; simp only [List.mem_cons, List.not_mem_nil, or_false] at hi ⊢ <;> omega)
  show ST G mi_Mo_maskOf 7 [(0, .ref 373)] [] u1 0 0 _
  refine ST.lift (fun _ _ k => T_aload_n (v := .ref 373) d_Mo_maskOf_7 rfl (Or.inr ⟨_, rfl⟩) k) ?_
  refine ST.lift (fun _ _ k => T_ldc2 d_Mo_maskOf_8 kJ_Mo_520 k) ?_
  refine S_virtual (as := [.long (25977)]) (rest := []) (b := 373) d_Mo_maskOf_11 rfl (jw_Mo_letters.jo (by decide)) lm_Mo_104 ji_Mo_letters js_Mo_letters (w373 _) rfl rfl rfl (Nat.le_of_ble_eq_true rfl) (by decide) (by decide) (c_Mo_letters G u1 (25977) s4 es_u1 (by omega) hv2) (fun r u6 hq => ?_)
  obtain ⟨hr, hv7, hm8, s9, hb_s9, es_u6⟩ := hq
  rw [hr]
  clear hr r
  have hm10 := hm5.go hm8 (by intro i hi; simp only [List.mem_cons, List.not_mem_nil, or_false] at hi ⊢ <;> omega)
  show ST G mi_Mo_maskOf 14 [(0, .ref 373)] [] u6 0 0 _
  refine ST.lift (fun _ _ k => T_aload_n (v := .ref 373) d_Mo_maskOf_14 rfl (Or.inr ⟨_, rfl⟩) k) ?_
  refine ST.lift (fun _ _ k => T_aload_n (v := .ref 373) d_Mo_maskOf_15 rfl (Or.inr ⟨_, rfl⟩) k) ?_
  refine S_getfield d_Mo_maskOf_16 fg_Mo_353 (w373 _) rfl ?_
  refine ST.lift (fun _ _ k => T_iconst (v := nI 0) d_Mo_maskOf_19 (by decide) k) ?_
  refine ST.lift (fun _ _ k => T_bipush (v := nI 64) d_Mo_maskOf_20 (by decide) k) ?_
  refine S_virtual (as := [.ref 411, .int (nI 0), .int (nI 64)]) (rest := []) (b := 373) d_Mo_maskOf_22 rfl (jw_Mo_expand.jo (by decide)) lm_Mo_510 ji_Mo_expand js_Mo_expand (w373 _) rfl rfl rfl (Nat.le_of_ble_eq_true rfl) (by decide) (by decide) (c_Mo_expand_64 G u6 411 64 (by decide) a411 (by omega) 0 (by omega) s9 es_u6 (by omega) hv7) (fun r u11 hq => ?_)
  obtain ⟨hr, hv12, hm13, es_u11⟩ := hq
  rw [hr]
  clear hr r
  have hm15 := hm10.go hm13 (by intro i hi; simp only [List.mem_cons, List.not_mem_nil, or_false] at hi ⊢ <;> omega)
  show ST G mi_Mo_maskOf 25 [(0, .ref 373)] [] u11 0 0 _
  refine ST.lift (fun _ _ k => T_iconst (v := nI 0) d_Mo_maskOf_25 (by decide) k) ?_
  refine ST.lift (fun _ _ k => T_istore_n (L' := [(1, .int (nI 0)), (0, .ref 373)]) d_Mo_maskOf_26 (by decide) rfl k) ?_
  have lp19 : ∀ (n17 k16 : Nat), 64 - k16 = n17 → 0 ≤ k16 ∧ k16 ≤ 0 + 64 → ST G mi_Mo_maskOf 27 [(1, .int (nI k16)), (0, .ref 373)] [] u11 0 0 Q := by
    intro n17
    induction n17 using Nat.strongRecOn with
    | _ n17 ih18 =>
      intro k16 h20 h21
      refine ST.lift (fun _ _ k => T_iload_n d_Mo_maskOf_27 rfl k) ?_
      refine ST.lift (fun _ _ k => T_bipush (v := nI 64) d_Mo_maskOf_28 (by decide) k) ?_
      refine S_icmp_geN d_Mo_maskOf_30 rfl (by omega) (by omega) (fun c22 => ?_) (fun c22 => ?_)
      · exact S_vret d_Mo_maskOf_51 rfl (by decide) (by decide) (hQ _ hv12 hm15 (es_u11.trans (congrArg nI (by omega))))
      · refine ST.lift (fun _ _ k => T_aload_n (v := .ref 373) d_Mo_maskOf_33 rfl (Or.inr ⟨_, rfl⟩) k) ?_
        refine S_getfield d_Mo_maskOf_34 fg_Mo_371 (w373 _) rfl ?_
        refine ST.lift (fun _ _ k => T_iload_n d_Mo_maskOf_37 rfl k) ?_
        refine ST.lift (fun _ _ k => T_aload_n (v := .ref 373) d_Mo_maskOf_38 rfl (Or.inr ⟨_, rfl⟩) k) ?_
        refine S_getfield d_Mo_maskOf_39 fg_Mo_99 (w373 _) rfl ?_
        refine ST.lift (fun _ _ k => T_iload_n d_Mo_maskOf_42 rfl k) ?_
        refine S_iaload d_Mo_maskOf_43 a388 (vp_in_nI (by omega) (by omega)) (fun z23 => ?_)
        refine S_iastore d_Mo_maskOf_44 (by decide) a417 (vp_in_nI (by omega) (by omega)) ?_
        refine S_iincN (a := k16) (b := 1) (L' := [(1, .int (nI (k16 + 1))), (0, .ref 373)]) d_Mo_maskOf_45 (by decide) rfl rfl rfl ?_
        refine ST.lift (fun _ _ k => T_goto (tgt := 27) d_Mo_maskOf_48 rfl k) ?_
        exact ih18 (64 - (k16 + 1)) (by omega) (k16 + 1)  rfl (by omega)
  exact lp19 _ 0  rfl (by omega)
set_option maxRecDepth 100000 in
set_option maxHeartbeats 4000000 in
theorem c_Mo_share (G : GX) (v : Nat → Int32) (pos : Nat) (b_pos : pos + 32 ≤ 96) (p : Nat) (b_p : p ≤ 60) : CS G mi_Mo_share [.ref 373, .int (nI pos), .int (nI p)] v (fun r v' => r = none ∧ v' = v) := by
  refine CS.of (by decide) (Nat.le_of_ble_eq_true rfl) ?_
  generalize hQe : (fun (r : Option Value) (v' : Nat → Int32) => r = none ∧ v' = v) = Q
  have hQ : Q none v := by rw [← hQe]; exact ⟨rfl, rfl⟩
  clear hQe
  show ST G mi_Mo_share 0 [(0, .ref 373), (1, .int (nI pos)), (2, .int (nI p))] [] v 0 0 Q
  refine ST.lift (fun _ _ k => T_aload_n (v := .ref 373) d_Mo_share_0 rfl (Or.inr ⟨_, rfl⟩) k) ?_
  refine ST.lift (fun _ _ k => T_bipush (v := nI 16) d_Mo_share_1 (by decide) k) ?_
  refine ST.lift (fun _ _ k => T_iload_n d_Mo_share_3 rfl k) ?_
  refine S_virtual (as := [.int (nI 16), .int (nI p)]) (rest := []) (b := 373) d_Mo_share_4 rfl (jw_Mo_timesPoint.jo (by decide)) lm_Mo_290 ji_Mo_timesPoint js_Mo_timesPoint (w373 _) rfl rfl rfl (Nat.le_of_ble_eq_true rfl) (by decide) (by decide) (c_Mo_timesPoint G v 16 (by omega) p (by omega)) (fun r v' hq => ?_)
  rw [hq.1, hq.2]
  clear hq r v'
  show ST G mi_Mo_share 7 [(0, .ref 373), (1, .int (nI pos)), (2, .int (nI p))] [] v 0 0 _
  refine ST.lift (fun _ _ k => T_aload_n (v := .ref 373) d_Mo_share_7 rfl (Or.inr ⟨_, rfl⟩) k) ?_
  refine ST.lift (fun _ _ k => T_bipush (v := nI 16) d_Mo_share_8 (by decide) k) ?_
  refine S_virtual (as := [.int (nI 16)]) (rest := []) (b := 373) d_Mo_share_10 rfl (jw_Mo_code.jo (by decide)) lm_Mo_293 ji_Mo_code js_Mo_code (w373 _) rfl rfl rfl (Nat.le_of_ble_eq_true rfl) (by decide) (by decide) (c_Mo_code G v 16 (by omega)) (fun r v' hq => ?_)
  rw [hq.1, hq.2]
  clear hq r v'
  show ST G mi_Mo_share 13 [(0, .ref 373), (1, .int (nI pos)), (2, .int (nI p))] [] v 0 0 _
  refine ST.lift (fun _ _ k => T_iconst (v := nI 0) d_Mo_share_13 (by decide) k) ?_
  refine ST.lift (fun _ _ k => T_istore_n (L' := [(3, .int (nI 0)), (0, .ref 373), (1, .int (nI pos)), (2, .int (nI p))]) d_Mo_share_14 (by decide) rfl k) ?_
  have lp4 : ∀ (n2 k1 : Nat), 32 - k1 = n2 → 0 ≤ k1 ∧ k1 ≤ 0 + 32 → ST G mi_Mo_share 15 [(3, .int (nI k1)), (0, .ref 373), (1, .int (nI pos)), (2, .int (nI p))] [] v 0 0 Q := by
    intro n2
    induction n2 using Nat.strongRecOn with
    | _ n2 ih3 =>
      intro k1 h5 h6
      refine ST.lift (fun _ _ k => T_iload_n d_Mo_share_15 rfl k) ?_
      refine ST.lift (fun _ _ k => T_bipush (v := nI 32) d_Mo_share_16 (by decide) k) ?_
      refine S_icmp_geN d_Mo_share_18 rfl (by omega) (by omega) (fun c7 => ?_) (fun c7 => ?_)
      · exact S_vret d_Mo_share_41 rfl (by decide) (by decide) hQ
      · refine ST.lift (fun _ _ k => T_aload_n (v := .ref 373) d_Mo_share_21 rfl (Or.inr ⟨_, rfl⟩) k) ?_
        refine S_getfield d_Mo_share_22 fg_Mo_440 (w373 _) rfl ?_
        refine ST.lift (fun _ _ k => T_iload_n d_Mo_share_25 rfl k) ?_
        refine ST.lift (fun _ _ k => T_iload_n d_Mo_share_26 rfl k) ?_
        refine S_iaddN d_Mo_share_27 ?_
        refine ST.lift (fun _ _ k => T_aload_n (v := .ref 373) d_Mo_share_28 rfl (Or.inr ⟨_, rfl⟩) k) ?_
        refine S_getfield d_Mo_share_29 fg_Mo_146 (w373 _) rfl ?_
        refine ST.lift (fun _ _ k => T_iload_n d_Mo_share_32 rfl k) ?_
        refine S_iaload d_Mo_share_33 a394 (vp_in_nI (by omega) (by omega)) (fun z8 => ?_)
        refine S_iastore d_Mo_share_34 (by decide) a440 (vp_in_nI (by omega) (by omega)) ?_
        refine S_iincN (a := k1) (b := 1) (L' := [(3, .int (nI (k1 + 1))), (0, .ref 373), (1, .int (nI pos)), (2, .int (nI p))]) d_Mo_share_35 (by decide) rfl rfl rfl ?_
        refine ST.lift (fun _ _ k => T_goto (tgt := 15) d_Mo_share_38 rfl k) ?_
        exact ih3 (32 - (k1 + 1)) (by omega) (k1 + 1)  rfl (by omega)
  exact lp4 _ 0  rfl (by omega)
set_option maxRecDepth 100000 in
set_option maxHeartbeats 4000000 in
theorem c_Mo_preambleOf (G : GX) (v : Nat → Int32) (a ma : Nat) (w_a : K0 ≤ a) (a_a : aI a ma) (l_a : ma ≤ 4000) (pa : Nat) (b_pa : pa + 32 ≤ ma) (b mb : Nat) (w_b : K0 ≤ b) (a_b : aI b mb) (l_b : mb ≤ 4000) (pb : Nat) (b_pb : pb + 96 ≤ mb) (c mc : Nat) (w_c : K0 ≤ c) (a_c : aI c mc) (l_c : mc ≤ 4000) (pc : Nat) (b_pc : pc + 32 ≤ mc) (e me : Nat) (w_e : K0 ≤ e) (a_e : aI e me) (l_e : me ≤ 4000) (pe : Nat) (b_pe : pe + 256 ≤ me) (s : Nat) (es : v 67 = nI s) (hs : s ≤ 20) (hv : okv v) : CS G mi_Mo_preambleOf [.ref 373, .ref a, .int (nI pa), .ref b, .int (nI pb), .ref c, .int (nI pc), .ref e, .int (nI pe)] v (fun r v' => r = none ∧ okv v' ∧ mdf [67, 75] v v' ∧ v' 67 = nI 0) := by
  refine CS.of (by decide) (Nat.le_of_ble_eq_true rfl) ?_
  generalize hQe : (fun (r : Option Value) (v' : Nat → Int32) => r = none ∧ okv v' ∧ mdf [67, 75] v v' ∧ v' 67 = nI 0) = Q
  have hQ : ∀ (u : Nat → Int32) , okv u → mdf [67, 75] v u → u 67 = nI 0 → Q none u := by rw [← hQe]; exact fun u h1 h2 h3 => ⟨rfl, h1, h2, h3⟩
  clear hQe
  have hm : mdf [67, 75] v v := mdf.rf
  show ST G mi_Mo_preambleOf 0 [(0, .ref 373), (1, .ref a), (2, .int (nI pa)), (3, .ref b), (4, .int (nI pb)), (5, .ref c), (6, .int (nI pc)), (7, .ref e), (8, .int (nI pe))] [] v 0 0 Q
  refine ST.lift (fun _ _ k => T_aload_n (v := .ref 373) d_Mo_preambleOf_0 rfl (Or.inr ⟨_, rfl⟩) k) ?_
  refine ST.lift (fun _ _ k => T_ldc2 d_Mo_preambleOf_1 kJ_Mo_551 k) ?_
  refine S_virtual (as := [.long (5715139744711931441)]) (rest := []) (b := 373) d_Mo_preambleOf_4 rfl (jw_Mo_letters.jo (by decide)) lm_Mo_104 ji_Mo_letters js_Mo_letters (w373 _) rfl rfl rfl (Nat.le_of_ble_eq_true rfl) (by decide) (by decide) (c_Mo_letters G v (5715139744711931441) s es (by omega) hv) (fun r u1 hq => ?_)
  obtain ⟨hr, hv2, hm3, s4, hb_s4, es_u1⟩ := hq
  rw [hr]
  clear hr r
  have hm5 := hm.go hm3 (by intro i hi; simp only [List.mem_cons, List.not_mem_nil, or_false] at hi ⊢ <;> omega)
  show ST G mi_Mo_preambleOf 7 [(0, .ref 373), (1, .ref a), (2, .int (nI pa)), (3, .ref b), (4, .int (nI pb)), (5, .ref c), (6, .int (nI pc)), (7, .ref e), (8, .int (nI pe))] [] u1 0 0 _
  refine ST.lift (fun _ _ k => T_aload_n (v := .ref 373) d_Mo_preambleOf_7 rfl (Or.inr ⟨_, rfl⟩) k) ?_
  refine ST.lift (fun _ _ k => T_ldc2 d_Mo_preambleOf_8 kJ_Mo_553 k) ?_
  refine S_virtual (as := [.long (45)]) (rest := []) (b := 373) d_Mo_preambleOf_11 rfl (jw_Mo_letters.jo (by decide)) lm_Mo_104 ji_Mo_letters js_Mo_letters (w373 _) rfl rfl rfl (Nat.le_of_ble_eq_true rfl) (by decide) (by decide) (c_Mo_letters G u1 (45) s4 es_u1 (by omega) hv2) (fun r u6 hq => ?_)
  obtain ⟨hr, hv7, hm8, s9, hb_s9, es_u6⟩ := hq
  rw [hr]
  clear hr r
  have hm10 := hm5.go hm8 (by intro i hi; simp only [List.mem_cons, List.not_mem_nil, or_false] at hi ⊢ <;> omega)
  show ST G mi_Mo_preambleOf 14 [(0, .ref 373), (1, .ref a), (2, .int (nI pa)), (3, .ref b), (4, .int (nI pb)), (5, .ref c), (6, .int (nI pc)), (7, .ref e), (8, .int (nI pe))] [] u6 0 0 _
  refine ST.lift (fun _ _ k => T_aload_n (v := .ref 373) d_Mo_preambleOf_14 rfl (Or.inr ⟨_, rfl⟩) k) ?_
  refine ST.lift (fun _ _ k => T_iconst (v := nI 0) d_Mo_preambleOf_15 (by decide) k) ?_
  refine ST.lift (fun _ _ k => T_iconst (v := nI 2) d_Mo_preambleOf_16 (by decide) k) ?_
  refine S_virtual (as := [.int (nI 0), .int (nI 2)]) (rest := []) (b := 373) d_Mo_preambleOf_17 rfl (jw_Mo_number.jo (by decide)) lm_Mo_120 ji_Mo_number js_Mo_number (w373 _) rfl rfl rfl (Nat.le_of_ble_eq_true rfl) (by decide) (by decide) (c_Mo_number_2 G u6 (nI 0) s9 es_u6 (by omega) hv7) (fun r u11 hq => ?_)
  obtain ⟨hr, hv12, hm13, s14, hb_s14, es_u11⟩ := hq
  rw [hr]
  clear hr r
  have hm15 := hm10.go hm13 (by intro i hi; simp only [List.mem_cons, List.not_mem_nil, or_false] at hi ⊢ <;> omega)
  show ST G mi_Mo_preambleOf 20 [(0, .ref 373), (1, .ref a), (2, .int (nI pa)), (3, .ref b), (4, .int (nI pb)), (5, .ref c), (6, .int (nI pc)), (7, .ref e), (8, .int (nI pe))] [] u11 0 0 _
  refine ST.lift (fun _ _ k => T_aload_n (v := .ref 373) d_Mo_preambleOf_20 rfl (Or.inr ⟨_, rfl⟩) k) ?_
  refine ST.lift (fun _ _ k => T_bipush (v := nI 32) d_Mo_preambleOf_21 (by decide) k) ?_
  refine ST.lift (fun _ _ k => T_iconst (v := nI 2) d_Mo_preambleOf_23 (by decide) k) ?_
  refine S_virtual (as := [.int (nI 32), .int (nI 2)]) (rest := []) (b := 373) d_Mo_preambleOf_24 rfl (jw_Mo_number.jo (by decide)) lm_Mo_120 ji_Mo_number js_Mo_number (w373 _) rfl rfl rfl (Nat.le_of_ble_eq_true rfl) (by decide) (by decide) (c_Mo_number_2 G u11 (nI 32) s14 es_u11 (by omega) hv12) (fun r u16 hq => ?_)
  obtain ⟨hr, hv17, hm18, s19, hb_s19, es_u16⟩ := hq
  rw [hr]
  clear hr r
  have hm20 := hm15.go hm18 (by intro i hi; simp only [List.mem_cons, List.not_mem_nil, or_false] at hi ⊢ <;> omega)
  show ST G mi_Mo_preambleOf 27 [(0, .ref 373), (1, .ref a), (2, .int (nI pa)), (3, .ref b), (4, .int (nI pb)), (5, .ref c), (6, .int (nI pc)), (7, .ref e), (8, .int (nI pe))] [] u16 0 0 _
  refine ST.lift (fun _ _ k => T_aload_n (v := .ref 373) d_Mo_preambleOf_27 rfl (Or.inr ⟨_, rfl⟩) k) ?_
  refine ST.lift (fun _ _ k => T_aload_n (v := .ref a) d_Mo_preambleOf_28 rfl (Or.inr ⟨_, rfl⟩) k) ?_
  refine ST.lift (fun _ _ k => T_iload_n d_Mo_preambleOf_29 rfl k) ?_
  refine ST.lift (fun _ _ k => T_bipush (v := nI 32) d_Mo_preambleOf_30 (by decide) k) ?_
  refine S_virtual (as := [.ref a, .int (nI pa), .int (nI 32)]) (rest := []) (b := 373) d_Mo_preambleOf_32 rfl (jw_Mo_bytes.jo (by decide)) lm_Mo_76 ji_Mo_bytes js_Mo_bytes (w373 _) rfl rfl rfl (Nat.le_of_ble_eq_true rfl) (by decide) (by decide) (c_Mo_bytes G u16 a ma w_a a_a (by omega) pa (by omega) 32 (by omega) s19 es_u16 (by omega) hv17) (fun r u21 hq => ?_)
  obtain ⟨hr, hv22, hm23, s24, hb_s24, es_u21⟩ := hq
  rw [hr]
  clear hr r
  have hm25 := hm20.go hm23 (by intro i hi; simp only [List.mem_cons, List.not_mem_nil, or_false] at hi ⊢ <;> omega)
  show ST G mi_Mo_preambleOf 35 [(0, .ref 373), (1, .ref a), (2, .int (nI pa)), (3, .ref b), (4, .int (nI pb)), (5, .ref c), (6, .int (nI pc)), (7, .ref e), (8, .int (nI pe))] [] u21 0 0 _
  refine ST.lift (fun _ _ k => T_aload_n (v := .ref 373) d_Mo_preambleOf_35 rfl (Or.inr ⟨_, rfl⟩) k) ?_
  refine ST.lift (fun _ _ k => T_aload_n (v := .ref b) d_Mo_preambleOf_36 rfl (Or.inr ⟨_, rfl⟩) k) ?_
  refine ST.lift (fun _ _ k => T_iload d_Mo_preambleOf_37 rfl k) ?_
  refine ST.lift (fun _ _ k => T_bipush (v := nI 96) d_Mo_preambleOf_39 (by decide) k) ?_
  refine S_virtual (as := [.ref b, .int (nI pb), .int (nI 96)]) (rest := []) (b := 373) d_Mo_preambleOf_41 rfl (jw_Mo_bytes.jo (by decide)) lm_Mo_76 ji_Mo_bytes js_Mo_bytes (w373 _) rfl rfl rfl (Nat.le_of_ble_eq_true rfl) (by decide) (by decide) (c_Mo_bytes G u21 b mb w_b a_b (by omega) pb (by omega) 96 (by omega) s24 es_u21 (by omega) hv22) (fun r u26 hq => ?_)
  obtain ⟨hr, hv27, hm28, s29, hb_s29, es_u26⟩ := hq
  rw [hr]
  clear hr r
  have hm30 := hm25.go hm28 (by intro i hi; simp only [List.mem_cons, List.not_mem_nil, or_false] at hi ⊢ <;> omega)
  show ST G mi_Mo_preambleOf 44 [(0, .ref 373), (1, .ref a), (2, .int (nI pa)), (3, .ref b), (4, .int (nI pb)), (5, .ref c), (6, .int (nI pc)), (7, .ref e), (8, .int (nI pe))] [] u26 0 0 _
  refine ST.lift (fun _ _ k => T_aload_n (v := .ref 373) d_Mo_preambleOf_44 rfl (Or.inr ⟨_, rfl⟩) k) ?_
  refine ST.lift (fun _ _ k => T_bipush (v := nI 32) d_Mo_preambleOf_45 (by decide) k) ?_
  refine ST.lift (fun _ _ k => T_iconst (v := nI 2) d_Mo_preambleOf_47 (by decide) k) ?_
  refine S_virtual (as := [.int (nI 32), .int (nI 2)]) (rest := []) (b := 373) d_Mo_preambleOf_48 rfl (jw_Mo_number.jo (by decide)) lm_Mo_120 ji_Mo_number js_Mo_number (w373 _) rfl rfl rfl (Nat.le_of_ble_eq_true rfl) (by decide) (by decide) (c_Mo_number_2 G u26 (nI 32) s29 es_u26 (by omega) hv27) (fun r u31 hq => ?_)
  obtain ⟨hr, hv32, hm33, s34, hb_s34, es_u31⟩ := hq
  rw [hr]
  clear hr r
  have hm35 := hm30.go hm33 (by intro i hi; simp only [List.mem_cons, List.not_mem_nil, or_false] at hi ⊢ <;> omega)
  show ST G mi_Mo_preambleOf 51 [(0, .ref 373), (1, .ref a), (2, .int (nI pa)), (3, .ref b), (4, .int (nI pb)), (5, .ref c), (6, .int (nI pc)), (7, .ref e), (8, .int (nI pe))] [] u31 0 0 _
  refine ST.lift (fun _ _ k => T_aload_n (v := .ref 373) d_Mo_preambleOf_51 rfl (Or.inr ⟨_, rfl⟩) k) ?_
  refine ST.lift (fun _ _ k => T_aload (v := .ref c) d_Mo_preambleOf_52 rfl (Or.inr ⟨_, rfl⟩) k) ?_
  refine ST.lift (fun _ _ k => T_iload d_Mo_preambleOf_54 rfl k) ?_
  refine ST.lift (fun _ _ k => T_bipush (v := nI 32) d_Mo_preambleOf_56 (by decide) k) ?_
  refine S_virtual (as := [.ref c, .int (nI pc), .int (nI 32)]) (rest := []) (b := 373) d_Mo_preambleOf_58 rfl (jw_Mo_bytes.jo (by decide)) lm_Mo_76 ji_Mo_bytes js_Mo_bytes (w373 _) rfl rfl rfl (Nat.le_of_ble_eq_true rfl) (by decide) (by decide) (c_Mo_bytes G u31 c mc w_c a_c (by omega) pc (by omega) 32 (by omega) s34 es_u31 (by omega) hv32) (fun r u36 hq => ?_)
  obtain ⟨hr, hv37, hm38, s39, hb_s39, es_u36⟩ := hq
  rw [hr]
  clear hr r
  have hm40 := hm35.go hm38 (by intro i hi; simp only [List.mem_cons, List.not_mem_nil, or_false] at hi ⊢ <;> omega)
  show ST G mi_Mo_preambleOf 61 [(0, .ref 373), (1, .ref a), (2, .int (nI pa)), (3, .ref b), (4, .int (nI pb)), (5, .ref c), (6, .int (nI pc)), (7, .ref e), (8, .int (nI pe))] [] u36 0 0 _
  refine ST.lift (fun _ _ k => T_aload_n (v := .ref 373) d_Mo_preambleOf_61 rfl (Or.inr ⟨_, rfl⟩) k) ?_
  refine ST.lift (fun _ _ k => T_aload (v := .ref e) d_Mo_preambleOf_62 rfl (Or.inr ⟨_, rfl⟩) k) ?_
  refine ST.lift (fun _ _ k => T_iload d_Mo_preambleOf_64 rfl k) ?_
  refine ST.lift (fun _ _ k => T_sipush (v := nI 256) d_Mo_preambleOf_66 (by decide) k) ?_
  refine S_virtual (as := [.ref e, .int (nI pe), .int (nI 256)]) (rest := []) (b := 373) d_Mo_preambleOf_69 rfl (jw_Mo_bytes.jo (by decide)) lm_Mo_76 ji_Mo_bytes js_Mo_bytes (w373 _) rfl rfl rfl (Nat.le_of_ble_eq_true rfl) (by decide) (by decide) (c_Mo_bytes G u36 e me w_e a_e (by omega) pe (by omega) 256 (by omega) s39 es_u36 (by omega) hv37) (fun r u41 hq => ?_)
  obtain ⟨hr, hv42, hm43, s44, hb_s44, es_u41⟩ := hq
  rw [hr]
  clear hr r
  have hm45 := hm40.go hm43 (by intro i hi; simp only [List.mem_cons, List.not_mem_nil, or_false] at hi ⊢ <;> omega)
  show ST G mi_Mo_preambleOf 72 [(0, .ref 373), (1, .ref a), (2, .int (nI pa)), (3, .ref b), (4, .int (nI pb)), (5, .ref c), (6, .int (nI pc)), (7, .ref e), (8, .int (nI pe))] [] u41 0 0 _
  refine ST.lift (fun _ _ k => T_aload_n (v := .ref 373) d_Mo_preambleOf_72 rfl (Or.inr ⟨_, rfl⟩) k) ?_
  refine ST.lift (fun _ _ k => T_aload_n (v := .ref 373) d_Mo_preambleOf_73 rfl (Or.inr ⟨_, rfl⟩) k) ?_
  refine S_getfield d_Mo_preambleOf_74 fg_Mo_7 (w373 _) rfl ?_
  refine S_topi (y := nI s44) (es_u41) ?_
  refine S_putfield (v' := va_up u41 75 (nI s44)) d_Mo_preambleOf_77 (fp_Mo_446 _) (w373 _) (Nat.le_of_ble_eq_true rfl) ⟨rfl, rfl⟩ (u373_77 _ _) ?_
  have hv47 := hv42.up (j := 75) (c := 500) (k := s44) (by decide) (by omega)
  have hm48 := hm45.go (mdf.up (v := u41) (j := 75) (x := (nI s44))) (by intro i hi; simp only [List.mem_cons, List.not_mem_nil, or_false] at hi ⊢ <;> omega)
  have e_u46 : (va_up u41 75 (nI s44)) 75 = (nI s44) := by simp [va_up]
  have e49 : (va_up u41 75 (nI s44)) 67 = nI s44 := by simp only [va_up]; exact es_u41
  generalize va_up u41 75 (nI s44) = u46 at hv47 hm48 e_u46 e49 ⊢
  refine ST.lift (fun _ _ k => T_iconst (v := nI 0) d_Mo_preambleOf_80 (by decide) k) ?_
  refine ST.lift (fun _ _ k => T_istore (L' := [(9, .int (nI 0)), (0, .ref 373), (1, .ref a), (2, .int (nI pa)), (3, .ref b), (4, .int (nI pb)), (5, .ref c), (6, .int (nI pc)), (7, .ref e), (8, .int (nI pe))]) d_Mo_preambleOf_81 (by decide) rfl k) ?_
  have lp53 : ∀ (n51 k50 : Nat), s44 - k50 = n51 → 0 ≤ k50 ∧ k50 ≤ 0 + s44 → ST G mi_Mo_preambleOf 83 [(9, .int (nI k50)), (0, .ref 373), (1, .ref a), (2, .int (nI pa)), (3, .ref b), (4, .int (nI pb)), (5, .ref c), (6, .int (nI pc)), (7, .ref e), (8, .int (nI pe))] [] u46 0 0 Q := by
    intro n51
    induction n51 using Nat.strongRecOn with
    | _ n51 ih52 =>
      intro k50 h54 h55
      refine ST.lift (fun _ _ k => T_iload d_Mo_preambleOf_83 rfl k) ?_
      refine ST.lift (fun _ _ k => T_aload_n (v := .ref 373) d_Mo_preambleOf_85 rfl (Or.inr ⟨_, rfl⟩) k) ?_
      refine S_getfield d_Mo_preambleOf_86 fg_Mo_7 (w373 _) rfl ?_
      refine S_topi (y := nI s44) (e49) ?_
      refine S_icmp_geN d_Mo_preambleOf_89 rfl (by omega) (by omega) (fun c56 => ?_) (fun c56 => ?_)
      · refine ST.lift (fun _ _ k => T_aload_n (v := .ref 373) d_Mo_preambleOf_112 rfl (Or.inr ⟨_, rfl⟩) k) ?_
        refine ST.lift (fun _ _ k => T_iconst (v := nI 0) d_Mo_preambleOf_113 (by decide) k) ?_
        refine S_putfield (v' := va_up u46 67 (nI 0)) d_Mo_preambleOf_114 (fp_Mo_7 _) (w373 _) (Nat.le_of_ble_eq_true rfl) ⟨rfl, rfl⟩ (u373_2 _ _) ?_
        have hv59 := hv47.up (j := 67) (c := 4000) (k := 0) (by decide) (by omega)
        have hm60 := hm48.go (mdf.up (v := u46) (j := 67) (x := (nI 0))) (by intro i hi; simp only [List.mem_cons, List.not_mem_nil, or_false] at hi ⊢ <;> omega)
        have e_u58 : (va_up u46 67 (nI 0)) 67 = (nI 0) := by simp [va_up]
        have e61 : (va_up u46 67 (nI 0)) 75 = nI s44 := by simp only [va_up]; exact e_u46
        generalize va_up u46 67 (nI 0) = u58 at hv59 hm60 e_u58 e61 ⊢
        exact S_vret d_Mo_preambleOf_117 rfl (by decide) (by decide) (hQ _ hv59 hm60 (e_u58.trans (congrArg nI (by omega))))
      · refine ST.lift (fun _ _ k => T_aload_n (v := .ref 373) d_Mo_preambleOf_92 rfl (Or.inr ⟨_, rfl⟩) k) ?_
        refine S_getfield d_Mo_preambleOf_93 fg_Mo_443 (w373 _) rfl ?_
        refine ST.lift (fun _ _ k => T_iload d_Mo_preambleOf_96 rfl k) ?_
        refine ST.lift (fun _ _ k => T_aload_n (v := .ref 373) d_Mo_preambleOf_98 rfl (Or.inr ⟨_, rfl⟩) k) ?_
        refine S_getfield d_Mo_preambleOf_99 fg_Mo_1 (w373 _) rfl ?_
        refine ST.lift (fun _ _ k => T_iload d_Mo_preambleOf_102 rfl k) ?_
        refine S_iaload d_Mo_preambleOf_104 a374 (vp_in_nI (by omega) (by omega)) (fun z62 => ?_)
        refine S_iastore d_Mo_preambleOf_105 (by decide) a441 (vp_in_nI (by omega) (by omega)) ?_
        refine S_iincN (a := k50) (b := 1) (L' := [(9, .int (nI (k50 + 1))), (0, .ref 373), (1, .ref a), (2, .int (nI pa)), (3, .ref b), (4, .int (nI pb)), (5, .ref c), (6, .int (nI pc)), (7, .ref e), (8, .int (nI pe))]) d_Mo_preambleOf_106 (by decide) rfl rfl rfl ?_
        refine ST.lift (fun _ _ k => T_goto (tgt := 83) d_Mo_preambleOf_109 rfl k) ?_
        exact ih52 (s44 - (k50 + 1)) (by omega) (k50 + 1)  rfl (by omega)
  exact lp53 _ 0  rfl (by omega)
set_option maxRecDepth 100000 in
set_option maxHeartbeats 4000000 in
theorem c_Mo_label (G : GX) (v : Nat → Int32) (n : Int32) (s : Nat) (es : v 67 = nI s) (hs : s ≤ 3900) (hv : okv v) : CS G mi_Mo_label [.ref 373, .int n] v (fun r v' => r = none ∧ okv v' ∧ mdf [67] v v' ∧ ∃ s', s' ≤ s + 11 ∧ v' 67 = nI s') := by
  refine CS.of (by decide) (Nat.le_of_ble_eq_true rfl) ?_
  generalize hQe : (fun (r : Option Value) (v' : Nat → Int32) => r = none ∧ okv v' ∧ mdf [67] v v' ∧ ∃ s', s' ≤ s + 11 ∧ v' 67 = nI s') = Q
  have hQ : ∀ (u : Nat → Int32) (s' : Nat) , okv u → mdf [67] v u → s' ≤ s + 11 → u 67 = nI s' → Q none u := by rw [← hQe]; exact fun u s' h1 h2 h3 h4 => ⟨rfl, h1, h2, s', h3, h4⟩
  clear hQe
  have hm : mdf [67] v v := mdf.rf
  show ST G mi_Mo_label 0 [(0, .ref 373), (1, .int n)] [] v 0 0 Q
  refine ST.lift (fun _ _ k => T_aload_n (v := .ref 373) d_Mo_label_0 rfl (Or.inr ⟨_, rfl⟩) k) ?_
  refine ST.lift (fun _ _ k => T_bipush (v := nI 64) d_Mo_label_1 (by decide) k) ?_
  refine ST.lift (fun _ _ k => T_iconst (v := nI 2) d_Mo_label_3 (by decide) k) ?_
  refine S_virtual (as := [.int (nI 64), .int (nI 2)]) (rest := []) (b := 373) d_Mo_label_4 rfl (jw_Mo_number.jo (by decide)) lm_Mo_120 ji_Mo_number js_Mo_number (w373 _) rfl rfl rfl (Nat.le_of_ble_eq_true rfl) (by decide) (by decide) (c_Mo_number_2 G v (nI 64) s es (by omega) hv) (fun r u1 hq => ?_)
  obtain ⟨hr, hv2, hm3, s4, hb_s4, es_u1⟩ := hq
  rw [hr]
  clear hr r
  have hm5 := hm.go hm3 (by intro i hi; simp only [List.mem_cons, List.not_mem_nil, or_false] at hi ⊢ <;> omega)
  show ST G mi_Mo_label 7 [(0, .ref 373), (1, .int n)] [] u1 0 0 _
  refine ST.lift (fun _ _ k => T_aload_n (v := .ref 373) d_Mo_label_7 rfl (Or.inr ⟨_, rfl⟩) k) ?_
  refine ST.lift (fun _ _ k => T_bipush (v := nI 7) d_Mo_label_8 (by decide) k) ?_
  refine ST.lift (fun _ _ k => T_iload_n d_Mo_label_10 rfl k) ?_
  refine ST.lift (fun _ _ k => T_iadd d_Mo_label_11 k) (S_anyi fun z6 => ?_)
  refine S_virtual (as := [.int z6]) (rest := []) (b := 373) d_Mo_label_12 rfl (jw_Mo_one.jo (by decide)) lm_Mo_11 ji_Mo_one js_Mo_one (w373 _) rfl rfl rfl (Nat.le_of_ble_eq_true rfl) (by decide) (by decide) (c_Mo_one G u1 z6 s4 es_u1 (by omega) hv2) (fun r v' hq => ?_)
  rw [hq.1, hq.2]
  clear hq r v'
  show ST G mi_Mo_label 15 [(0, .ref 373), (1, .int n)] [] (va_up u1 67 (nI (s4 + 1))) 0 0 _
  have hv8 := hv2.up (j := 67) (c := 4000) (k := (s4 + 1)) (by decide) (by omega)
  have hm9 := hm5.go (mdf.up (v := u1) (j := 67) (x := (nI (s4 + 1)))) (by intro i hi; simp only [List.mem_cons, List.not_mem_nil, or_false] at hi ⊢ <;> omega)
  have e_u7 : (va_up u1 67 (nI (s4 + 1))) 67 = (nI (s4 + 1)) := by simp [va_up]
  generalize va_up u1 67 (nI (s4 + 1)) = u7 at hv8 hm9 e_u7 ⊢
  refine ST.lift (fun _ _ k => T_aload_n (v := .ref 373) d_Mo_label_15 rfl (Or.inr ⟨_, rfl⟩) k) ?_
  refine ST.lift (fun _ _ k => T_ldc2 d_Mo_label_16 kJ_Mo_555 k) ?_
  refine S_virtual (as := [.long (22324764627780909)]) (rest := []) (b := 373) d_Mo_label_19 rfl (jw_Mo_letters.jo (by decide)) lm_Mo_104 ji_Mo_letters js_Mo_letters (w373 _) rfl rfl rfl (Nat.le_of_ble_eq_true rfl) (by decide) (by decide) (c_Mo_letters G u7 (22324764627780909) (s4 + 1) e_u7 (by omega) hv8) (fun r u10 hq => ?_)
  obtain ⟨hr, hv11, hm12, s13, hb_s13, es_u10⟩ := hq
  rw [hr]
  clear hr r
  have hm14 := hm9.go hm12 (by intro i hi; simp only [List.mem_cons, List.not_mem_nil, or_false] at hi ⊢ <;> omega)
  show ST G mi_Mo_label 22 [(0, .ref 373), (1, .int n)] [] u10 0 0 _
  exact S_vret d_Mo_label_22 rfl (by decide) (by decide) (hQ _ s13 hv11 hm14 (by omega) es_u10)
set_option maxRecDepth 100000 in
set_option maxHeartbeats 4000000 in
theorem c_Mo_derive (G : GX) (v : Nat → Int32) (s : Nat) (es : v 67 = nI s) (hs : s ≤ 50) (hv : okv v) : CS G mi_Mo_derive [.ref 373] v (fun r v' => r = none ∧ okv v' ∧ mdf [67, 68, 69] v v' ∧ v' 67 = nI 0) := by
  refine CS.of (by decide) (Nat.le_of_ble_eq_true rfl) ?_
  generalize hQe : (fun (r : Option Value) (v' : Nat → Int32) => r = none ∧ okv v' ∧ mdf [67, 68, 69] v v' ∧ v' 67 = nI 0) = Q
  have hQ : ∀ (u : Nat → Int32) , okv u → mdf [67, 68, 69] v u → u 67 = nI 0 → Q none u := by rw [← hQe]; exact fun u h1 h2 h3 => ⟨rfl, h1, h2, h3⟩
  clear hQe
  have hm : mdf [67, 68, 69] v v := mdf.rf
  show ST G mi_Mo_derive 0 [(0, .ref 373)] [] v 0 0 Q
  refine ST.lift (fun _ _ k => T_aload_n (v := .ref 373) d_Mo_derive_0 rfl (Or.inr ⟨_, rfl⟩) k) ?_
  refine ST.lift (fun _ _ k => T_aload_n (v := .ref 373) d_Mo_derive_1 rfl (Or.inr ⟨_, rfl⟩) k) ?_
  refine S_getfield d_Mo_derive_2 fg_Mo_440 (w373 _) rfl ?_
  refine ST.lift (fun _ _ k => T_iconst (v := nI 0) d_Mo_derive_5 (by decide) k) ?_
  refine ST.lift (fun _ _ k => T_bipush (v := nI 96) d_Mo_derive_6 (by decide) k) ?_
  refine S_virtual (as := [.ref 440, .int (nI 0), .int (nI 96)]) (rest := []) (b := 373) d_Mo_derive_8 rfl (jw_Mo_bytes.jo (by decide)) lm_Mo_76 ji_Mo_bytes js_Mo_bytes (w373 _) rfl rfl rfl (Nat.le_of_ble_eq_true rfl) (by decide) (by decide) (c_Mo_bytes G v 440 96 (by decide) a440 (by omega) 0 (by omega) 96 (by omega) s es (by omega) hv) (fun r u1 hq => ?_)
  obtain ⟨hr, hv2, hm3, s4, hb_s4, es_u1⟩ := hq
  rw [hr]
  clear hr r
  have hm5 := hm.go hm3 (by intro i hi; simp only [List.mem_cons, List.not_mem_nil, or_false] at hi ⊢ <;> omega)
  show ST G mi_Mo_derive 11 [(0, .ref 373)] [] u1 0 0 _
  refine ST.lift (fun _ _ k => T_aload_n (v := .ref 373) d_Mo_derive_11 rfl (Or.inr ⟨_, rfl⟩) k) ?_
  refine S_virtual (as := []) (rest := []) (b := 373) d_Mo_derive_12 rfl (jw_Mo_extract.jo (by decide)) lm_Mo_515 ji_Mo_extract js_Mo_extract (w373 _) rfl rfl rfl (Nat.le_of_ble_eq_true rfl) (by decide) (by decide) (c_Mo_extract G u1 s4 es_u1 (by omega) hv2) (fun r u6 hq => ?_)
  obtain ⟨hr, hv7, hm8, es_u6⟩ := hq
  rw [hr]
  clear hr r
  have hm10 := hm5.go hm8 (by intro i hi; simp only [List.mem_cons, List.not_mem_nil, or_false] at hi ⊢ <;> omega)
  show ST G mi_Mo_derive 15 [(0, .ref 373)] [] u6 0 0 _
  refine ST.lift (fun _ _ k => T_iconst (v := nI 0) d_Mo_derive_15 (by decide) k) ?_
  refine ST.lift (fun _ _ k => T_istore_n (L' := [(1, .int (nI 0)), (0, .ref 373)]) d_Mo_derive_16 (by decide) rfl k) ?_
  have lp14 : ∀ (n12 k11 : Nat), 64 - k11 = n12 → 0 ≤ k11 ∧ k11 ≤ 0 + 64 → ST G mi_Mo_derive 17 [(1, .int (nI k11)), (0, .ref 373)] [] u6 0 0 Q := by
    intro n12
    induction n12 using Nat.strongRecOn with
    | _ n12 ih13 =>
      intro k11 h15 h16
      refine ST.lift (fun _ _ k => T_iload_n d_Mo_derive_17 rfl k) ?_
      refine ST.lift (fun _ _ k => T_bipush (v := nI 64) d_Mo_derive_18 (by decide) k) ?_
      refine S_icmp_geN d_Mo_derive_20 rfl (by omega) (by omega) (fun c17 => ?_) (fun c17 => ?_)
      · refine ST.lift (fun _ _ k => T_aload_n (v := .ref 373) d_Mo_derive_41 rfl (Or.inr ⟨_, rfl⟩) k) ?_
        refine ST.lift (fun _ _ k => T_aload_n (v := .ref 373) d_Mo_derive_42 rfl (Or.inr ⟨_, rfl⟩) k) ?_
        refine S_getfield d_Mo_derive_43 fg_Mo_443 (w373 _) rfl ?_
        refine ST.lift (fun _ _ k => T_iconst (v := nI 0) d_Mo_derive_46 (by decide) k) ?_
        refine ST.lift (fun _ _ k => T_aload_n (v := .ref 373) d_Mo_derive_47 rfl (Or.inr ⟨_, rfl⟩) k) ?_
        obtain ⟨k19, hk19, ek19⟩ := hv7.get (j := 75) (c := 500) (by decide)
        refine S_getfield d_Mo_derive_48 fg_Mo_446 (w373 _) rfl ?_
        refine S_topi (y := nI k19) (ek19) ?_
        refine S_virtual (as := [.ref 441, .int (nI 0), .int (nI k19)]) (rest := []) (b := 373) d_Mo_derive_51 rfl (jw_Mo_bytes.jo (by decide)) lm_Mo_76 ji_Mo_bytes js_Mo_bytes (w373 _) rfl rfl rfl (Nat.le_of_ble_eq_true rfl) (by decide) (by decide) (c_Mo_bytes G u6 441 500 (by decide) a441 (by omega) 0 (by omega) k19 (by omega) 0 es_u6 (by omega) hv7) (fun r u20 hq => ?_)
        obtain ⟨hr, hv21, hm22, s23, hb_s23, es_u20⟩ := hq
        rw [hr]
        clear hr r
        have hm24 := hm10.go hm22 (by intro i hi; simp only [List.mem_cons, List.not_mem_nil, or_false] at hi ⊢ <;> omega)
        have e25 : u20 75 = nI k19 := (hm22 75 (by decide)).trans ek19
        show ST G mi_Mo_derive 54 [(1, .int (nI k11)), (0, .ref 373)] [] u20 0 0 _
        refine ST.lift (fun _ _ k => T_aload_n (v := .ref 373) d_Mo_derive_54 rfl (Or.inr ⟨_, rfl⟩) k) ?_
        refine S_virtual (as := []) (rest := []) (b := 373) d_Mo_derive_55 rfl (jw_Mo_hash0.jo (by decide)) lm_Mo_80 ji_Mo_hash0 js_Mo_hash0 (w373 _) rfl rfl rfl (Nat.le_of_ble_eq_true rfl) (by decide) (by decide) (c_Mo_hash0 G u20 s23 es_u20 (by omega) hv21) (fun r u26 hq => ?_)
        obtain ⟨hr, hv27, hm28, es_u26⟩ := hq
        rw [hr]
        clear hr r
        have hm30 := hm24.go hm28 (by intro i hi; simp only [List.mem_cons, List.not_mem_nil, or_false] at hi ⊢ <;> omega)
        have e31 : u26 75 = nI k19 := (hm28 75 (by decide)).trans e25
        show ST G mi_Mo_derive 58 [(1, .int (nI k11)), (0, .ref 373)] [] u26 0 0 _
        refine ST.lift (fun _ _ k => T_iconst (v := nI 0) d_Mo_derive_58 (by decide) k) ?_
        refine ST.lift (fun _ _ k => T_istore_n (L' := [(1, .int (nI 0)), (0, .ref 373)]) d_Mo_derive_59 (by decide) rfl k) ?_
        have lp35 : ∀ (n33 k32 : Nat), 64 - k32 = n33 → 0 ≤ k32 ∧ k32 ≤ 0 + 64 → ST G mi_Mo_derive 60 [(1, .int (nI k32)), (0, .ref 373)] [] u26 0 0 Q := by
          intro n33
          induction n33 using Nat.strongRecOn with
          | _ n33 ih34 =>
            intro k32 h36 h37
            refine ST.lift (fun _ _ k => T_iload_n d_Mo_derive_60 rfl k) ?_
            refine ST.lift (fun _ _ k => T_bipush (v := nI 64) d_Mo_derive_61 (by decide) k) ?_
            refine S_icmp_geN d_Mo_derive_63 rfl (by omega) (by omega) (fun c38 => ?_) (fun c38 => ?_)
            · refine ST.lift (fun _ _ k => T_aload_n (v := .ref 373) d_Mo_derive_84 rfl (Or.inr ⟨_, rfl⟩) k) ?_
              refine ST.lift (fun _ _ k => T_bipush (v := nI 15) d_Mo_derive_85 (by decide) k) ?_
              refine S_virtual (as := [.int (nI 15)]) (rest := []) (b := 373) d_Mo_derive_87 rfl (jw_Mo_label.jo (by decide)) lm_Mo_557 ji_Mo_label js_Mo_label (w373 _) rfl rfl rfl (Nat.le_of_ble_eq_true rfl) (by decide) (by decide) (c_Mo_label G u26 (nI 15) 0 es_u26 (by omega) hv27) (fun r u40 hq => ?_)
              obtain ⟨hr, hv41, hm42, s43, hb_s43, es_u40⟩ := hq
              rw [hr]
              clear hr r
              have hm44 := hm30.go hm42 (by intro i hi; simp only [List.mem_cons, List.not_mem_nil, or_false] at hi ⊢ <;> omega)
              have e45 : u40 75 = nI k19 := (hm42 75 (by decide)).trans e31
              show ST G mi_Mo_derive 90 [(1, .int (nI k32)), (0, .ref 373)] [] u40 0 0 _
              refine ST.lift (fun _ _ k => T_aload_n (v := .ref 373) d_Mo_derive_90 rfl (Or.inr ⟨_, rfl⟩) k) ?_
              refine ST.lift (fun _ _ k => T_ldc2 d_Mo_derive_91 kJ_Mo_560 k) ?_
              refine S_virtual (as := [.long (5215571221183750507)]) (rest := []) (b := 373) d_Mo_derive_94 rfl (jw_Mo_letters.jo (by decide)) lm_Mo_104 ji_Mo_letters js_Mo_letters (w373 _) rfl rfl rfl (Nat.le_of_ble_eq_true rfl) (by decide) (by decide) (c_Mo_letters G u40 (5215571221183750507) s43 es_u40 (by omega) hv41) (fun r u46 hq => ?_)
              obtain ⟨hr, hv47, hm48, s49, hb_s49, es_u46⟩ := hq
              rw [hr]
              clear hr r
              have hm50 := hm44.go hm48 (by intro i hi; simp only [List.mem_cons, List.not_mem_nil, or_false] at hi ⊢ <;> omega)
              have e51 : u46 75 = nI k19 := (hm48 75 (by decide)).trans e45
              show ST G mi_Mo_derive 97 [(1, .int (nI k32)), (0, .ref 373)] [] u46 0 0 _
              refine ST.lift (fun _ _ k => T_aload_n (v := .ref 373) d_Mo_derive_97 rfl (Or.inr ⟨_, rfl⟩) k) ?_
              refine ST.lift (fun _ _ k => T_ldc2 d_Mo_derive_98 kJ_Mo_562 k) ?_
              refine S_virtual (as := [.long (28520667573020020)]) (rest := []) (b := 373) d_Mo_derive_101 rfl (jw_Mo_letters.jo (by decide)) lm_Mo_104 ji_Mo_letters js_Mo_letters (w373 _) rfl rfl rfl (Nat.le_of_ble_eq_true rfl) (by decide) (by decide) (c_Mo_letters G u46 (28520667573020020) s49 es_u46 (by omega) hv47) (fun r u52 hq => ?_)
              obtain ⟨hr, hv53, hm54, s55, hb_s55, es_u52⟩ := hq
              rw [hr]
              clear hr r
              have hm56 := hm50.go hm54 (by intro i hi; simp only [List.mem_cons, List.not_mem_nil, or_false] at hi ⊢ <;> omega)
              have e57 : u52 75 = nI k19 := (hm54 75 (by decide)).trans e51
              show ST G mi_Mo_derive 104 [(1, .int (nI k32)), (0, .ref 373)] [] u52 0 0 _
              refine ST.lift (fun _ _ k => T_aload_n (v := .ref 373) d_Mo_derive_104 rfl (Or.inr ⟨_, rfl⟩) k) ?_
              refine ST.lift (fun _ _ k => T_bipush (v := nI 64) d_Mo_derive_105 (by decide) k) ?_
              refine S_virtual (as := [.int (nI 64)]) (rest := []) (b := 373) d_Mo_derive_107 rfl (jw_Mo_one.jo (by decide)) lm_Mo_11 ji_Mo_one js_Mo_one (w373 _) rfl rfl rfl (Nat.le_of_ble_eq_true rfl) (by decide) (by decide) (c_Mo_one G u52 (nI 64) s55 es_u52 (by omega) hv53) (fun r v' hq => ?_)
              rw [hq.1, hq.2]
              clear hq r v'
              show ST G mi_Mo_derive 110 [(1, .int (nI k32)), (0, .ref 373)] [] (va_up u52 67 (nI (s55 + 1))) 0 0 _
              have hv59 := hv53.up (j := 67) (c := 4000) (k := (s55 + 1)) (by decide) (by omega)
              have hm60 := hm56.go (mdf.up (v := u52) (j := 67) (x := (nI (s55 + 1)))) (by intro i hi; simp only [List.mem_cons, List.not_mem_nil, or_false] at hi ⊢ <;> omega)
              have e_u58 : (va_up u52 67 (nI (s55 + 1))) 67 = (nI (s55 + 1)) := by simp [va_up]
              have e61 : (va_up u52 67 (nI (s55 + 1))) 75 = nI k19 := by simp only [va_up]; exact e57
              generalize va_up u52 67 (nI (s55 + 1)) = u58 at hv59 hm60 e_u58 e61 ⊢
              refine ST.lift (fun _ _ k => T_aload_n (v := .ref 373) d_Mo_derive_110 rfl (Or.inr ⟨_, rfl⟩) k) ?_
              refine ST.lift (fun _ _ k => T_aload_n (v := .ref 373) d_Mo_derive_111 rfl (Or.inr ⟨_, rfl⟩) k) ?_
              refine S_getfield d_Mo_derive_112 fg_Mo_452 (w373 _) rfl ?_
              refine ST.lift (fun _ _ k => T_iconst (v := nI 0) d_Mo_derive_115 (by decide) k) ?_
              refine ST.lift (fun _ _ k => T_bipush (v := nI 64) d_Mo_derive_116 (by decide) k) ?_
              refine S_virtual (as := [.ref 443, .int (nI 0), .int (nI 64)]) (rest := []) (b := 373) d_Mo_derive_118 rfl (jw_Mo_bytes.jo (by decide)) lm_Mo_76 ji_Mo_bytes js_Mo_bytes (w373 _) rfl rfl rfl (Nat.le_of_ble_eq_true rfl) (by decide) (by decide) (c_Mo_bytes G u58 443 64 (by decide) a443 (by omega) 0 (by omega) 64 (by omega) (s55 + 1) e_u58 (by omega) hv59) (fun r u62 hq => ?_)
              obtain ⟨hr, hv63, hm64, s65, hb_s65, es_u62⟩ := hq
              rw [hr]
              clear hr r
              have hm66 := hm60.go hm64 (by intro i hi; simp only [List.mem_cons, List.not_mem_nil, or_false] at hi ⊢ <;> omega)
              have e67 : u62 75 = nI k19 := (hm64 75 (by decide)).trans e61
              show ST G mi_Mo_derive 121 [(1, .int (nI k32)), (0, .ref 373)] [] u62 0 0 _
              refine ST.lift (fun _ _ k => T_aload_n (v := .ref 373) d_Mo_derive_121 rfl (Or.inr ⟨_, rfl⟩) k) ?_
              refine ST.lift (fun _ _ k => T_aload_n (v := .ref 373) d_Mo_derive_122 rfl (Or.inr ⟨_, rfl⟩) k) ?_
              refine S_getfield d_Mo_derive_123 fg_Mo_449 (w373 _) rfl ?_
              refine ST.lift (fun _ _ k => T_iconst (v := nI 0) d_Mo_derive_126 (by decide) k) ?_
              refine ST.lift (fun _ _ k => T_bipush (v := nI 64) d_Mo_derive_127 (by decide) k) ?_
              refine S_virtual (as := [.ref 442, .int (nI 0), .int (nI 64)]) (rest := []) (b := 373) d_Mo_derive_129 rfl (jw_Mo_expand.jo (by decide)) lm_Mo_510 ji_Mo_expand js_Mo_expand (w373 _) rfl rfl rfl (Nat.le_of_ble_eq_true rfl) (by decide) (by decide) (c_Mo_expand_64 G u62 442 64 (by decide) a442 (by omega) 0 (by omega) s65 es_u62 (by omega) hv63) (fun r u68 hq => ?_)
              obtain ⟨hr, hv69, hm70, es_u68⟩ := hq
              rw [hr]
              clear hr r
              have hm72 := hm66.go hm70 (by intro i hi; simp only [List.mem_cons, List.not_mem_nil, or_false] at hi ⊢ <;> omega)
              have e73 : u68 75 = nI k19 := (hm70 75 (by decide)).trans e67
              show ST G mi_Mo_derive 132 [(1, .int (nI k32)), (0, .ref 373)] [] u68 0 0 _
              refine ST.lift (fun _ _ k => T_iconst (v := nI 0) d_Mo_derive_132 (by decide) k) ?_
              refine ST.lift (fun _ _ k => T_istore_n (L' := [(1, .int (nI 0)), (0, .ref 373)]) d_Mo_derive_133 (by decide) rfl k) ?_
              have lp77 : ∀ (n75 k74 : Nat), 64 - k74 = n75 → 0 ≤ k74 ∧ k74 ≤ 0 + 64 → ST G mi_Mo_derive 134 [(1, .int (nI k74)), (0, .ref 373)] [] u68 0 0 Q := by
                intro n75
                induction n75 using Nat.strongRecOn with
                | _ n75 ih76 =>
                  intro k74 h78 h79
                  refine ST.lift (fun _ _ k => T_iload_n d_Mo_derive_134 rfl k) ?_
                  refine ST.lift (fun _ _ k => T_bipush (v := nI 64) d_Mo_derive_135 (by decide) k) ?_
                  refine S_icmp_geN d_Mo_derive_137 rfl (by omega) (by omega) (fun c80 => ?_) (fun c80 => ?_)
                  · refine ST.lift (fun _ _ k => T_aload_n (v := .ref 373) d_Mo_derive_158 rfl (Or.inr ⟨_, rfl⟩) k) ?_
                    refine ST.lift (fun _ _ k => T_bipush (v := nI 10) d_Mo_derive_159 (by decide) k) ?_
                    refine S_virtual (as := [.int (nI 10)]) (rest := []) (b := 373) d_Mo_derive_161 rfl (jw_Mo_label.jo (by decide)) lm_Mo_557 ji_Mo_label js_Mo_label (w373 _) rfl rfl rfl (Nat.le_of_ble_eq_true rfl) (by decide) (by decide) (c_Mo_label G u68 (nI 10) 0 es_u68 (by omega) hv69) (fun r u82 hq => ?_)
                    obtain ⟨hr, hv83, hm84, s85, hb_s85, es_u82⟩ := hq
                    rw [hr]
                    clear hr r
                    have hm86 := hm72.go hm84 (by intro i hi; simp only [List.mem_cons, List.not_mem_nil, or_false] at hi ⊢ <;> omega)
                    have e87 : u82 75 = nI k19 := (hm84 75 (by decide)).trans e73
                    show ST G mi_Mo_derive 164 [(1, .int (nI k74)), (0, .ref 373)] [] u82 0 0 _
                    refine ST.lift (fun _ _ k => T_aload_n (v := .ref 373) d_Mo_derive_164 rfl (Or.inr ⟨_, rfl⟩) k) ?_
                    refine ST.lift (fun _ _ k => T_ldc2 d_Mo_derive_165 kJ_Mo_564 k) ?_
                    refine S_virtual (as := [.long (6009336217323138635)]) (rest := []) (b := 373) d_Mo_derive_168 rfl (jw_Mo_letters.jo (by decide)) lm_Mo_104 ji_Mo_letters js_Mo_letters (w373 _) rfl rfl rfl (Nat.le_of_ble_eq_true rfl) (by decide) (by decide) (c_Mo_letters G u82 (6009336217323138635) s85 es_u82 (by omega) hv83) (fun r u88 hq => ?_)
                    obtain ⟨hr, hv89, hm90, s91, hb_s91, es_u88⟩ := hq
                    rw [hr]
                    clear hr r
                    have hm92 := hm86.go hm90 (by intro i hi; simp only [List.mem_cons, List.not_mem_nil, or_false] at hi ⊢ <;> omega)
                    have e93 : u88 75 = nI k19 := (hm90 75 (by decide)).trans e87
                    show ST G mi_Mo_derive 171 [(1, .int (nI k74)), (0, .ref 373)] [] u88 0 0 _
                    refine ST.lift (fun _ _ k => T_aload_n (v := .ref 373) d_Mo_derive_171 rfl (Or.inr ⟨_, rfl⟩) k) ?_
                    refine ST.lift (fun _ _ k => T_ldc2 d_Mo_derive_172 kJ_Mo_520 k) ?_
                    refine S_virtual (as := [.long (25977)]) (rest := []) (b := 373) d_Mo_derive_175 rfl (jw_Mo_letters.jo (by decide)) lm_Mo_104 ji_Mo_letters js_Mo_letters (w373 _) rfl rfl rfl (Nat.le_of_ble_eq_true rfl) (by decide) (by decide) (c_Mo_letters G u88 (25977) s91 es_u88 (by omega) hv89) (fun r u94 hq => ?_)
                    obtain ⟨hr, hv95, hm96, s97, hb_s97, es_u94⟩ := hq
                    rw [hr]
                    clear hr r
                    have hm98 := hm92.go hm96 (by intro i hi; simp only [List.mem_cons, List.not_mem_nil, or_false] at hi ⊢ <;> omega)
                    have e99 : u94 75 = nI k19 := (hm96 75 (by decide)).trans e93
                    show ST G mi_Mo_derive 178 [(1, .int (nI k74)), (0, .ref 373)] [] u94 0 0 _
                    refine ST.lift (fun _ _ k => T_aload_n (v := .ref 373) d_Mo_derive_178 rfl (Or.inr ⟨_, rfl⟩) k) ?_
                    refine ST.lift (fun _ _ k => T_bipush (v := nI 64) d_Mo_derive_179 (by decide) k) ?_
                    refine S_virtual (as := [.int (nI 64)]) (rest := []) (b := 373) d_Mo_derive_181 rfl (jw_Mo_one.jo (by decide)) lm_Mo_11 ji_Mo_one js_Mo_one (w373 _) rfl rfl rfl (Nat.le_of_ble_eq_true rfl) (by decide) (by decide) (c_Mo_one G u94 (nI 64) s97 es_u94 (by omega) hv95) (fun r v' hq => ?_)
                    rw [hq.1, hq.2]
                    clear hq r v'
                    show ST G mi_Mo_derive 184 [(1, .int (nI k74)), (0, .ref 373)] [] (va_up u94 67 (nI (s97 + 1))) 0 0 _
                    have hv101 := hv95.up (j := 67) (c := 4000) (k := (s97 + 1)) (by decide) (by omega)
                    have hm102 := hm98.go (mdf.up (v := u94) (j := 67) (x := (nI (s97 + 1)))) (by intro i hi; simp only [List.mem_cons, List.not_mem_nil, or_false] at hi ⊢ <;> omega)
                    have e_u100 : (va_up u94 67 (nI (s97 + 1))) 67 = (nI (s97 + 1)) := by simp [va_up]
                    have e103 : (va_up u94 67 (nI (s97 + 1))) 75 = nI k19 := by simp only [va_up]; exact e99
                    generalize va_up u94 67 (nI (s97 + 1)) = u100 at hv101 hm102 e_u100 e103 ⊢
                    refine ST.lift (fun _ _ k => T_aload_n (v := .ref 373) d_Mo_derive_184 rfl (Or.inr ⟨_, rfl⟩) k) ?_
                    refine ST.lift (fun _ _ k => T_aload_n (v := .ref 373) d_Mo_derive_185 rfl (Or.inr ⟨_, rfl⟩) k) ?_
                    refine S_getfield d_Mo_derive_186 fg_Mo_452 (w373 _) rfl ?_
                    refine ST.lift (fun _ _ k => T_iconst (v := nI 0) d_Mo_derive_189 (by decide) k) ?_
                    refine ST.lift (fun _ _ k => T_bipush (v := nI 64) d_Mo_derive_190 (by decide) k) ?_
                    refine S_virtual (as := [.ref 443, .int (nI 0), .int (nI 64)]) (rest := []) (b := 373) d_Mo_derive_192 rfl (jw_Mo_bytes.jo (by decide)) lm_Mo_76 ji_Mo_bytes js_Mo_bytes (w373 _) rfl rfl rfl (Nat.le_of_ble_eq_true rfl) (by decide) (by decide) (c_Mo_bytes G u100 443 64 (by decide) a443 (by omega) 0 (by omega) 64 (by omega) (s97 + 1) e_u100 (by omega) hv101) (fun r u104 hq => ?_)
                    obtain ⟨hr, hv105, hm106, s107, hb_s107, es_u104⟩ := hq
                    rw [hr]
                    clear hr r
                    have hm108 := hm102.go hm106 (by intro i hi; simp only [List.mem_cons, List.not_mem_nil, or_false] at hi ⊢ <;> omega)
                    have e109 : u104 75 = nI k19 := (hm106 75 (by decide)).trans e103
                    show ST G mi_Mo_derive 195 [(1, .int (nI k74)), (0, .ref 373)] [] u104 0 0 _
                    refine ST.lift (fun _ _ k => T_aload_n (v := .ref 373) d_Mo_derive_195 rfl (Or.inr ⟨_, rfl⟩) k) ?_
                    refine ST.lift (fun _ _ k => T_aload_n (v := .ref 373) d_Mo_derive_196 rfl (Or.inr ⟨_, rfl⟩) k) ?_
                    refine S_getfield d_Mo_derive_197 fg_Mo_449 (w373 _) rfl ?_
                    refine ST.lift (fun _ _ k => T_iconst (v := nI 0) d_Mo_derive_200 (by decide) k) ?_
                    refine ST.lift (fun _ _ k => T_bipush (v := nI 64) d_Mo_derive_201 (by decide) k) ?_
                    refine S_virtual (as := [.ref 442, .int (nI 0), .int (nI 64)]) (rest := []) (b := 373) d_Mo_derive_203 rfl (jw_Mo_expand.jo (by decide)) lm_Mo_510 ji_Mo_expand js_Mo_expand (w373 _) rfl rfl rfl (Nat.le_of_ble_eq_true rfl) (by decide) (by decide) (c_Mo_expand_64 G u104 442 64 (by decide) a442 (by omega) 0 (by omega) s107 es_u104 (by omega) hv105) (fun r u110 hq => ?_)
                    obtain ⟨hr, hv111, hm112, es_u110⟩ := hq
                    rw [hr]
                    clear hr r
                    have hm114 := hm108.go hm112 (by intro i hi; simp only [List.mem_cons, List.not_mem_nil, or_false] at hi ⊢ <;> omega)
                    have e115 : u110 75 = nI k19 := (hm112 75 (by decide)).trans e109
                    show ST G mi_Mo_derive 206 [(1, .int (nI k74)), (0, .ref 373)] [] u110 0 0 _
                    refine ST.lift (fun _ _ k => T_iconst (v := nI 0) d_Mo_derive_206 (by decide) k) ?_
                    refine ST.lift (fun _ _ k => T_istore_n (L' := [(1, .int (nI 0)), (0, .ref 373)]) d_Mo_derive_207 (by decide) rfl k) ?_
                    have lp119 : ∀ (n117 k116 : Nat), 64 - k116 = n117 → 0 ≤ k116 ∧ k116 ≤ 0 + 64 → ST G mi_Mo_derive 208 [(1, .int (nI k116)), (0, .ref 373)] [] u110 0 0 Q := by
                      intro n117
                      induction n117 using Nat.strongRecOn with
                      | _ n117 ih118 =>
                        intro k116 h120 h121
                        refine ST.lift (fun _ _ k => T_iload_n d_Mo_derive_208 rfl k) ?_
                        refine ST.lift (fun _ _ k => T_bipush (v := nI 64) d_Mo_derive_209 (by decide) k) ?_
                        refine S_icmp_geN d_Mo_derive_211 rfl (by omega) (by omega) (fun c122 => ?_) (fun c122 => ?_)
                        · refine ST.lift (fun _ _ k => T_aload_n (v := .ref 373) d_Mo_derive_232 rfl (Or.inr ⟨_, rfl⟩) k) ?_
                          refine ST.lift (fun _ _ k => T_bipush (v := nI 9) d_Mo_derive_233 (by decide) k) ?_
                          refine S_virtual (as := [.int (nI 9)]) (rest := []) (b := 373) d_Mo_derive_235 rfl (jw_Mo_label.jo (by decide)) lm_Mo_557 ji_Mo_label js_Mo_label (w373 _) rfl rfl rfl (Nat.le_of_ble_eq_true rfl) (by decide) (by decide) (c_Mo_label G u110 (nI 9) 0 es_u110 (by omega) hv111) (fun r u124 hq => ?_)
                          obtain ⟨hr, hv125, hm126, s127, hb_s127, es_u124⟩ := hq
                          rw [hr]
                          clear hr r
                          have hm128 := hm114.go hm126 (by intro i hi; simp only [List.mem_cons, List.not_mem_nil, or_false] at hi ⊢ <;> omega)
                          have e129 : u124 75 = nI k19 := (hm126 75 (by decide)).trans e115
                          show ST G mi_Mo_derive 238 [(1, .int (nI k116)), (0, .ref 373)] [] u124 0 0 _
                          refine ST.lift (fun _ _ k => T_aload_n (v := .ref 373) d_Mo_derive_238 rfl (Or.inr ⟨_, rfl⟩) k) ?_
                          refine ST.lift (fun _ _ k => T_ldc2 d_Mo_derive_239 kJ_Mo_566 k) ?_
                          refine S_virtual (as := [.long (6009335130629492033)]) (rest := []) (b := 373) d_Mo_derive_242 rfl (jw_Mo_letters.jo (by decide)) lm_Mo_104 ji_Mo_letters js_Mo_letters (w373 _) rfl rfl rfl (Nat.le_of_ble_eq_true rfl) (by decide) (by decide) (c_Mo_letters G u124 (6009335130629492033) s127 es_u124 (by omega) hv125) (fun r u130 hq => ?_)
                          obtain ⟨hr, hv131, hm132, s133, hb_s133, es_u130⟩ := hq
                          rw [hr]
                          clear hr r
                          have hm134 := hm128.go hm132 (by intro i hi; simp only [List.mem_cons, List.not_mem_nil, or_false] at hi ⊢ <;> omega)
                          have e135 : u130 75 = nI k19 := (hm132 75 (by decide)).trans e129
                          show ST G mi_Mo_derive 245 [(1, .int (nI k116)), (0, .ref 373)] [] u130 0 0 _
                          refine ST.lift (fun _ _ k => T_aload_n (v := .ref 373) d_Mo_derive_245 rfl (Or.inr ⟨_, rfl⟩) k) ?_
                          refine ST.lift (fun _ _ k => T_ldc2 d_Mo_derive_246 kJ_Mo_568 k) ?_
                          refine S_virtual (as := [.long (67)]) (rest := []) (b := 373) d_Mo_derive_249 rfl (jw_Mo_letters.jo (by decide)) lm_Mo_104 ji_Mo_letters js_Mo_letters (w373 _) rfl rfl rfl (Nat.le_of_ble_eq_true rfl) (by decide) (by decide) (c_Mo_letters G u130 (67) s133 es_u130 (by omega) hv131) (fun r u136 hq => ?_)
                          obtain ⟨hr, hv137, hm138, s139, hb_s139, es_u136⟩ := hq
                          rw [hr]
                          clear hr r
                          have hm140 := hm134.go hm138 (by intro i hi; simp only [List.mem_cons, List.not_mem_nil, or_false] at hi ⊢ <;> omega)
                          have e141 : u136 75 = nI k19 := (hm138 75 (by decide)).trans e135
                          show ST G mi_Mo_derive 252 [(1, .int (nI k116)), (0, .ref 373)] [] u136 0 0 _
                          refine ST.lift (fun _ _ k => T_aload_n (v := .ref 373) d_Mo_derive_252 rfl (Or.inr ⟨_, rfl⟩) k) ?_
                          refine ST.lift (fun _ _ k => T_iconst (v := nI 0) d_Mo_derive_253 (by decide) k) ?_
                          refine S_virtual (as := [.int (nI 0)]) (rest := []) (b := 373) d_Mo_derive_254 rfl (jw_Mo_one.jo (by decide)) lm_Mo_11 ji_Mo_one js_Mo_one (w373 _) rfl rfl rfl (Nat.le_of_ble_eq_true rfl) (by decide) (by decide) (c_Mo_one G u136 (nI 0) s139 es_u136 (by omega) hv137) (fun r v' hq => ?_)
                          rw [hq.1, hq.2]
                          clear hq r v'
                          show ST G mi_Mo_derive 257 [(1, .int (nI k116)), (0, .ref 373)] [] (va_up u136 67 (nI (s139 + 1))) 0 0 _
                          have hv143 := hv137.up (j := 67) (c := 4000) (k := (s139 + 1)) (by decide) (by omega)
                          have hm144 := hm140.go (mdf.up (v := u136) (j := 67) (x := (nI (s139 + 1)))) (by intro i hi; simp only [List.mem_cons, List.not_mem_nil, or_false] at hi ⊢ <;> omega)
                          have e_u142 : (va_up u136 67 (nI (s139 + 1))) 67 = (nI (s139 + 1)) := by simp [va_up]
                          have e145 : (va_up u136 67 (nI (s139 + 1))) 75 = nI k19 := by simp only [va_up]; exact e141
                          generalize va_up u136 67 (nI (s139 + 1)) = u142 at hv143 hm144 e_u142 e145 ⊢
                          refine ST.lift (fun _ _ k => T_aload_n (v := .ref 373) d_Mo_derive_257 rfl (Or.inr ⟨_, rfl⟩) k) ?_
                          refine ST.lift (fun _ _ k => T_aload_n (v := .ref 373) d_Mo_derive_258 rfl (Or.inr ⟨_, rfl⟩) k) ?_
                          refine S_getfield d_Mo_derive_259 fg_Mo_455 (w373 _) rfl ?_
                          refine ST.lift (fun _ _ k => T_iconst (v := nI 0) d_Mo_derive_262 (by decide) k) ?_
                          refine ST.lift (fun _ _ k => T_bipush (v := nI 64) d_Mo_derive_263 (by decide) k) ?_
                          refine S_virtual (as := [.ref 444, .int (nI 0), .int (nI 64)]) (rest := []) (b := 373) d_Mo_derive_265 rfl (jw_Mo_expand.jo (by decide)) lm_Mo_510 ji_Mo_expand js_Mo_expand (w373 _) rfl rfl rfl (Nat.le_of_ble_eq_true rfl) (by decide) (by decide) (c_Mo_expand_64 G u142 444 64 (by decide) a444 (by omega) 0 (by omega) (s139 + 1) e_u142 (by omega) hv143) (fun r u146 hq => ?_)
                          obtain ⟨hr, hv147, hm148, es_u146⟩ := hq
                          rw [hr]
                          clear hr r
                          have hm150 := hm144.go hm148 (by intro i hi; simp only [List.mem_cons, List.not_mem_nil, or_false] at hi ⊢ <;> omega)
                          have e151 : u146 75 = nI k19 := (hm148 75 (by decide)).trans e145
                          show ST G mi_Mo_derive 268 [(1, .int (nI k116)), (0, .ref 373)] [] u146 0 0 _
                          refine ST.lift (fun _ _ k => T_iconst (v := nI 0) d_Mo_derive_268 (by decide) k) ?_
                          refine ST.lift (fun _ _ k => T_istore_n (L' := [(1, .int (nI 0)), (0, .ref 373)]) d_Mo_derive_269 (by decide) rfl k) ?_
                          have lp155 : ∀ (n153 k152 : Nat), 64 - k152 = n153 → 0 ≤ k152 ∧ k152 ≤ 0 + 64 → ST G mi_Mo_derive 270 [(1, .int (nI k152)), (0, .ref 373)] [] u146 0 0 Q := by
                            intro n153
                            induction n153 using Nat.strongRecOn with
                            | _ n153 ih154 =>
                              intro k152 h156 h157
                              refine ST.lift (fun _ _ k => T_iload_n d_Mo_derive_270 rfl k) ?_
                              refine ST.lift (fun _ _ k => T_bipush (v := nI 64) d_Mo_derive_271 (by decide) k) ?_
                              refine S_icmp_geN d_Mo_derive_273 rfl (by omega) (by omega) (fun c158 => ?_) (fun c158 => ?_)
                              · refine ST.lift (fun _ _ k => T_aload_n (v := .ref 373) d_Mo_derive_294 rfl (Or.inr ⟨_, rfl⟩) k) ?_
                                refine ST.lift (fun _ _ k => T_aload_n (v := .ref 373) d_Mo_derive_295 rfl (Or.inr ⟨_, rfl⟩) k) ?_
                                refine S_getfield d_Mo_derive_296 fg_Mo_452 (w373 _) rfl ?_
                                refine ST.lift (fun _ _ k => T_iconst (v := nI 0) d_Mo_derive_299 (by decide) k) ?_
                                refine ST.lift (fun _ _ k => T_bipush (v := nI 64) d_Mo_derive_300 (by decide) k) ?_
                                refine S_virtual (as := [.ref 443, .int (nI 0), .int (nI 64)]) (rest := []) (b := 373) d_Mo_derive_302 rfl (jw_Mo_bytes.jo (by decide)) lm_Mo_76 ji_Mo_bytes js_Mo_bytes (w373 _) rfl rfl rfl (Nat.le_of_ble_eq_true rfl) (by decide) (by decide) (c_Mo_bytes G u146 443 64 (by decide) a443 (by omega) 0 (by omega) 64 (by omega) 0 es_u146 (by omega) hv147) (fun r u160 hq => ?_)
                                obtain ⟨hr, hv161, hm162, s163, hb_s163, es_u160⟩ := hq
                                rw [hr]
                                clear hr r
                                have hm164 := hm150.go hm162 (by intro i hi; simp only [List.mem_cons, List.not_mem_nil, or_false] at hi ⊢ <;> omega)
                                have e165 : u160 75 = nI k19 := (hm162 75 (by decide)).trans e151
                                show ST G mi_Mo_derive 305 [(1, .int (nI k152)), (0, .ref 373)] [] u160 0 0 _
                                refine ST.lift (fun _ _ k => T_aload_n (v := .ref 373) d_Mo_derive_305 rfl (Or.inr ⟨_, rfl⟩) k) ?_
                                refine ST.lift (fun _ _ k => T_aload_n (v := .ref 373) d_Mo_derive_306 rfl (Or.inr ⟨_, rfl⟩) k) ?_
                                refine S_getfield d_Mo_derive_307 fg_Mo_338 (w373 _) rfl ?_
                                refine ST.lift (fun _ _ k => T_iconst (v := nI 0) d_Mo_derive_310 (by decide) k) ?_
                                refine ST.lift (fun _ _ k => T_bipush (v := nI 64) d_Mo_derive_311 (by decide) k) ?_
                                refine S_virtual (as := [.ref 408, .int (nI 0), .int (nI 64)]) (rest := []) (b := 373) d_Mo_derive_313 rfl (jw_Mo_mac.jo (by decide)) lm_Mo_90 ji_Mo_mac js_Mo_mac (w373 _) rfl rfl rfl (Nat.le_of_ble_eq_true rfl) (by decide) (by decide) (c_Mo_mac G u160 408 400 (by decide) a408 (by omega) 0 (by omega) s163 es_u160 (by omega) hv161) (fun r u166 hq => ?_)
                                obtain ⟨hr, hv167, hm168, es_u166⟩ := hq
                                rw [hr]
                                clear hr r
                                have hm170 := hm164.go hm168 (by intro i hi; simp only [List.mem_cons, List.not_mem_nil, or_false] at hi ⊢ <;> omega)
                                have e171 : u166 75 = nI k19 := (hm168 75 (by decide)).trans e165
                                show ST G mi_Mo_derive 316 [(1, .int (nI k152)), (0, .ref 373)] [] u166 0 0 _
                                refine ST.lift (fun _ _ k => T_iconst (v := nI 0) d_Mo_derive_316 (by decide) k) ?_
                                refine ST.lift (fun _ _ k => T_istore_n (L' := [(1, .int (nI 0)), (0, .ref 373)]) d_Mo_derive_317 (by decide) rfl k) ?_
                                have lp175 : ∀ (n173 k172 : Nat), 64 - k172 = n173 → 0 ≤ k172 ∧ k172 ≤ 0 + 64 → ST G mi_Mo_derive 318 [(1, .int (nI k172)), (0, .ref 373)] [] u166 0 0 Q := by
                                  intro n173
                                  induction n173 using Nat.strongRecOn with
                                  | _ n173 ih174 =>
                                    intro k172 h176 h177
                                    refine ST.lift (fun _ _ k => T_iload_n d_Mo_derive_318 rfl k) ?_
                                    refine ST.lift (fun _ _ k => T_bipush (v := nI 64) d_Mo_derive_319 (by decide) k) ?_
                                    refine S_icmp_geN d_Mo_derive_321 rfl (by omega) (by omega) (fun c178 => ?_) (fun c178 => ?_)
                                    · refine ST.lift (fun _ _ k => T_aload_n (v := .ref 373) d_Mo_derive_342 rfl (Or.inr ⟨_, rfl⟩) k) ?_
                                      refine ST.lift (fun _ _ k => T_bipush (v := nI 9) d_Mo_derive_343 (by decide) k) ?_
                                      refine S_virtual (as := [.int (nI 9)]) (rest := []) (b := 373) d_Mo_derive_345 rfl (jw_Mo_label.jo (by decide)) lm_Mo_557 ji_Mo_label js_Mo_label (w373 _) rfl rfl rfl (Nat.le_of_ble_eq_true rfl) (by decide) (by decide) (c_Mo_label G u166 (nI 9) 0 es_u166 (by omega) hv167) (fun r u180 hq => ?_)
                                      obtain ⟨hr, hv181, hm182, s183, hb_s183, es_u180⟩ := hq
                                      rw [hr]
                                      clear hr r
                                      have hm184 := hm170.go hm182 (by intro i hi; simp only [List.mem_cons, List.not_mem_nil, or_false] at hi ⊢ <;> omega)
                                      have e185 : u180 75 = nI k19 := (hm182 75 (by decide)).trans e171
                                      show ST G mi_Mo_derive 348 [(1, .int (nI k172)), (0, .ref 373)] [] u180 0 0 _
                                      refine ST.lift (fun _ _ k => T_aload_n (v := .ref 373) d_Mo_derive_348 rfl (Or.inr ⟨_, rfl⟩) k) ?_
                                      refine ST.lift (fun _ _ k => T_ldc2 d_Mo_derive_349 kJ_Mo_570 k) ?_
                                      refine S_virtual (as := [.long (4858373982391651649)]) (rest := []) (b := 373) d_Mo_derive_352 rfl (jw_Mo_letters.jo (by decide)) lm_Mo_104 ji_Mo_letters js_Mo_letters (w373 _) rfl rfl rfl (Nat.le_of_ble_eq_true rfl) (by decide) (by decide) (c_Mo_letters G u180 (4858373982391651649) s183 es_u180 (by omega) hv181) (fun r u186 hq => ?_)
                                      obtain ⟨hr, hv187, hm188, s189, hb_s189, es_u186⟩ := hq
                                      rw [hr]
                                      clear hr r
                                      have hm190 := hm184.go hm188 (by intro i hi; simp only [List.mem_cons, List.not_mem_nil, or_false] at hi ⊢ <;> omega)
                                      have e191 : u186 75 = nI k19 := (hm188 75 (by decide)).trans e185
                                      show ST G mi_Mo_derive 355 [(1, .int (nI k172)), (0, .ref 373)] [] u186 0 0 _
                                      refine ST.lift (fun _ _ k => T_aload_n (v := .ref 373) d_Mo_derive_355 rfl (Or.inr ⟨_, rfl⟩) k) ?_
                                      refine ST.lift (fun _ _ k => T_ldc2 d_Mo_derive_356 kJ_Mo_568 k) ?_
                                      refine S_virtual (as := [.long (67)]) (rest := []) (b := 373) d_Mo_derive_359 rfl (jw_Mo_letters.jo (by decide)) lm_Mo_104 ji_Mo_letters js_Mo_letters (w373 _) rfl rfl rfl (Nat.le_of_ble_eq_true rfl) (by decide) (by decide) (c_Mo_letters G u186 (67) s189 es_u186 (by omega) hv187) (fun r u192 hq => ?_)
                                      obtain ⟨hr, hv193, hm194, s195, hb_s195, es_u192⟩ := hq
                                      rw [hr]
                                      clear hr r
                                      have hm196 := hm190.go hm194 (by intro i hi; simp only [List.mem_cons, List.not_mem_nil, or_false] at hi ⊢ <;> omega)
                                      have e197 : u192 75 = nI k19 := (hm194 75 (by decide)).trans e191
                                      show ST G mi_Mo_derive 362 [(1, .int (nI k172)), (0, .ref 373)] [] u192 0 0 _
                                      refine ST.lift (fun _ _ k => T_aload_n (v := .ref 373) d_Mo_derive_362 rfl (Or.inr ⟨_, rfl⟩) k) ?_
                                      refine ST.lift (fun _ _ k => T_iconst (v := nI 0) d_Mo_derive_363 (by decide) k) ?_
                                      refine S_virtual (as := [.int (nI 0)]) (rest := []) (b := 373) d_Mo_derive_364 rfl (jw_Mo_one.jo (by decide)) lm_Mo_11 ji_Mo_one js_Mo_one (w373 _) rfl rfl rfl (Nat.le_of_ble_eq_true rfl) (by decide) (by decide) (c_Mo_one G u192 (nI 0) s195 es_u192 (by omega) hv193) (fun r v' hq => ?_)
                                      rw [hq.1, hq.2]
                                      clear hq r v'
                                      show ST G mi_Mo_derive 367 [(1, .int (nI k172)), (0, .ref 373)] [] (va_up u192 67 (nI (s195 + 1))) 0 0 _
                                      have hv199 := hv193.up (j := 67) (c := 4000) (k := (s195 + 1)) (by decide) (by omega)
                                      have hm200 := hm196.go (mdf.up (v := u192) (j := 67) (x := (nI (s195 + 1)))) (by intro i hi; simp only [List.mem_cons, List.not_mem_nil, or_false] at hi ⊢ <;> omega)
                                      have e_u198 : (va_up u192 67 (nI (s195 + 1))) 67 = (nI (s195 + 1)) := by simp [va_up]
                                      have e201 : (va_up u192 67 (nI (s195 + 1))) 75 = nI k19 := by simp only [va_up]; exact e197
                                      generalize va_up u192 67 (nI (s195 + 1)) = u198 at hv199 hm200 e_u198 e201 ⊢
                                      refine ST.lift (fun _ _ k => T_aload_n (v := .ref 373) d_Mo_derive_367 rfl (Or.inr ⟨_, rfl⟩) k) ?_
                                      refine ST.lift (fun _ _ k => T_aload_n (v := .ref 373) d_Mo_derive_368 rfl (Or.inr ⟨_, rfl⟩) k) ?_
                                      refine S_getfield d_Mo_derive_369 fg_Mo_455 (w373 _) rfl ?_
                                      refine ST.lift (fun _ _ k => T_iconst (v := nI 0) d_Mo_derive_372 (by decide) k) ?_
                                      refine ST.lift (fun _ _ k => T_bipush (v := nI 64) d_Mo_derive_373 (by decide) k) ?_
                                      refine S_virtual (as := [.ref 444, .int (nI 0), .int (nI 64)]) (rest := []) (b := 373) d_Mo_derive_375 rfl (jw_Mo_expand.jo (by decide)) lm_Mo_510 ji_Mo_expand js_Mo_expand (w373 _) rfl rfl rfl (Nat.le_of_ble_eq_true rfl) (by decide) (by decide) (c_Mo_expand_64 G u198 444 64 (by decide) a444 (by omega) 0 (by omega) (s195 + 1) e_u198 (by omega) hv199) (fun r u202 hq => ?_)
                                      obtain ⟨hr, hv203, hm204, es_u202⟩ := hq
                                      rw [hr]
                                      clear hr r
                                      have hm206 := hm200.go hm204 (by intro i hi; simp only [List.mem_cons, List.not_mem_nil, or_false] at hi ⊢ <;> omega)
                                      have e207 : u202 75 = nI k19 := (hm204 75 (by decide)).trans e201
                                      show ST G mi_Mo_derive 378 [(1, .int (nI k172)), (0, .ref 373)] [] u202 0 0 _
                                      refine ST.lift (fun _ _ k => T_iconst (v := nI 0) d_Mo_derive_378 (by decide) k) ?_
                                      refine ST.lift (fun _ _ k => T_istore_n (L' := [(1, .int (nI 0)), (0, .ref 373)]) d_Mo_derive_379 (by decide) rfl k) ?_
                                      have lp211 : ∀ (n209 k208 : Nat), 64 - k208 = n209 → 0 ≤ k208 ∧ k208 ≤ 0 + 64 → ST G mi_Mo_derive 380 [(1, .int (nI k208)), (0, .ref 373)] [] u202 0 0 Q := by
                                        intro n209
                                        induction n209 using Nat.strongRecOn with
                                        | _ n209 ih210 =>
                                          intro k208 h212 h213
                                          refine ST.lift (fun _ _ k => T_iload_n d_Mo_derive_380 rfl k) ?_
                                          refine ST.lift (fun _ _ k => T_bipush (v := nI 64) d_Mo_derive_381 (by decide) k) ?_
                                          refine S_icmp_geN d_Mo_derive_383 rfl (by omega) (by omega) (fun c214 => ?_) (fun c214 => ?_)
                                          · refine ST.lift (fun _ _ k => T_aload_n (v := .ref 373) d_Mo_derive_404 rfl (Or.inr ⟨_, rfl⟩) k) ?_
                                            refine ST.lift (fun _ _ k => T_aload_n (v := .ref 373) d_Mo_derive_405 rfl (Or.inr ⟨_, rfl⟩) k) ?_
                                            refine S_getfield d_Mo_derive_406 fg_Mo_443 (w373 _) rfl ?_
                                            refine ST.lift (fun _ _ k => T_iconst (v := nI 0) d_Mo_derive_409 (by decide) k) ?_
                                            refine ST.lift (fun _ _ k => T_aload_n (v := .ref 373) d_Mo_derive_410 rfl (Or.inr ⟨_, rfl⟩) k) ?_
                                            refine S_getfield d_Mo_derive_411 fg_Mo_446 (w373 _) rfl ?_
                                            refine S_topi (y := nI k19) (e207) ?_
                                            refine S_virtual (as := [.ref 441, .int (nI 0), .int (nI k19)]) (rest := []) (b := 373) d_Mo_derive_414 rfl (jw_Mo_bytes.jo (by decide)) lm_Mo_76 ji_Mo_bytes js_Mo_bytes (w373 _) rfl rfl rfl (Nat.le_of_ble_eq_true rfl) (by decide) (by decide) (c_Mo_bytes G u202 441 500 (by decide) a441 (by omega) 0 (by omega) k19 (by omega) 0 es_u202 (by omega) hv203) (fun r u216 hq => ?_)
                                            obtain ⟨hr, hv217, hm218, s219, hb_s219, es_u216⟩ := hq
                                            rw [hr]
                                            clear hr r
                                            have hm220 := hm206.go hm218 (by intro i hi; simp only [List.mem_cons, List.not_mem_nil, or_false] at hi ⊢ <;> omega)
                                            have e221 : u216 75 = nI k19 := (hm218 75 (by decide)).trans e207
                                            show ST G mi_Mo_derive 417 [(1, .int (nI k208)), (0, .ref 373)] [] u216 0 0 _
                                            refine ST.lift (fun _ _ k => T_aload_n (v := .ref 373) d_Mo_derive_417 rfl (Or.inr ⟨_, rfl⟩) k) ?_
                                            refine ST.lift (fun _ _ k => T_aload_n (v := .ref 373) d_Mo_derive_418 rfl (Or.inr ⟨_, rfl⟩) k) ?_
                                            refine S_getfield d_Mo_derive_419 fg_Mo_458 (w373 _) rfl ?_
                                            refine ST.lift (fun _ _ k => T_iconst (v := nI 0) d_Mo_derive_422 (by decide) k) ?_
                                            refine ST.lift (fun _ _ k => T_bipush (v := nI 64) d_Mo_derive_423 (by decide) k) ?_
                                            refine S_virtual (as := [.ref 445, .int (nI 0), .int (nI 64)]) (rest := []) (b := 373) d_Mo_derive_425 rfl (jw_Mo_bytes.jo (by decide)) lm_Mo_76 ji_Mo_bytes js_Mo_bytes (w373 _) rfl rfl rfl (Nat.le_of_ble_eq_true rfl) (by decide) (by decide) (c_Mo_bytes G u216 445 64 (by decide) a445 (by omega) 0 (by omega) 64 (by omega) s219 es_u216 (by omega) hv217) (fun r u222 hq => ?_)
                                            obtain ⟨hr, hv223, hm224, s225, hb_s225, es_u222⟩ := hq
                                            rw [hr]
                                            clear hr r
                                            have hm226 := hm220.go hm224 (by intro i hi; simp only [List.mem_cons, List.not_mem_nil, or_false] at hi ⊢ <;> omega)
                                            have e227 : u222 75 = nI k19 := (hm224 75 (by decide)).trans e221
                                            show ST G mi_Mo_derive 428 [(1, .int (nI k208)), (0, .ref 373)] [] u222 0 0 _
                                            refine ST.lift (fun _ _ k => T_aload_n (v := .ref 373) d_Mo_derive_428 rfl (Or.inr ⟨_, rfl⟩) k) ?_
                                            refine S_virtual (as := []) (rest := []) (b := 373) d_Mo_derive_429 rfl (jw_Mo_hash0.jo (by decide)) lm_Mo_80 ji_Mo_hash0 js_Mo_hash0 (w373 _) rfl rfl rfl (Nat.le_of_ble_eq_true rfl) (by decide) (by decide) (c_Mo_hash0 G u222 s225 es_u222 (by omega) hv223) (fun r u228 hq => ?_)
                                            obtain ⟨hr, hv229, hm230, es_u228⟩ := hq
                                            rw [hr]
                                            clear hr r
                                            have hm232 := hm226.go hm230 (by intro i hi; simp only [List.mem_cons, List.not_mem_nil, or_false] at hi ⊢ <;> omega)
                                            have e233 : u228 75 = nI k19 := (hm230 75 (by decide)).trans e227
                                            show ST G mi_Mo_derive 432 [(1, .int (nI k208)), (0, .ref 373)] [] u228 0 0 _
                                            refine ST.lift (fun _ _ k => T_iconst (v := nI 0) d_Mo_derive_432 (by decide) k) ?_
                                            refine ST.lift (fun _ _ k => T_istore_n (L' := [(1, .int (nI 0)), (0, .ref 373)]) d_Mo_derive_433 (by decide) rfl k) ?_
                                            have lp237 : ∀ (n235 k234 : Nat), 64 - k234 = n235 → 0 ≤ k234 ∧ k234 ≤ 0 + 64 → ST G mi_Mo_derive 434 [(1, .int (nI k234)), (0, .ref 373)] [] u228 0 0 Q := by
                                              intro n235
                                              induction n235 using Nat.strongRecOn with
                                              | _ n235 ih236 =>
                                                intro k234 h238 h239
                                                refine ST.lift (fun _ _ k => T_iload_n d_Mo_derive_434 rfl k) ?_
                                                refine ST.lift (fun _ _ k => T_bipush (v := nI 64) d_Mo_derive_435 (by decide) k) ?_
                                                refine S_icmp_geN d_Mo_derive_437 rfl (by omega) (by omega) (fun c240 => ?_) (fun c240 => ?_)
                                                · refine ST.lift (fun _ _ k => T_aload_n (v := .ref 373) d_Mo_derive_458 rfl (Or.inr ⟨_, rfl⟩) k) ?_
                                                  refine ST.lift (fun _ _ k => T_aload_n (v := .ref 373) d_Mo_derive_459 rfl (Or.inr ⟨_, rfl⟩) k) ?_
                                                  refine S_getfield d_Mo_derive_460 fg_Mo_452 (w373 _) rfl ?_
                                                  refine ST.lift (fun _ _ k => T_iconst (v := nI 0) d_Mo_derive_463 (by decide) k) ?_
                                                  refine ST.lift (fun _ _ k => T_bipush (v := nI 64) d_Mo_derive_464 (by decide) k) ?_
                                                  refine S_virtual (as := [.ref 443, .int (nI 0), .int (nI 64)]) (rest := []) (b := 373) d_Mo_derive_466 rfl (jw_Mo_bytes.jo (by decide)) lm_Mo_76 ji_Mo_bytes js_Mo_bytes (w373 _) rfl rfl rfl (Nat.le_of_ble_eq_true rfl) (by decide) (by decide) (c_Mo_bytes G u228 443 64 (by decide) a443 (by omega) 0 (by omega) 64 (by omega) 0 es_u228 (by omega) hv229) (fun r u242 hq => ?_)
                                                  obtain ⟨hr, hv243, hm244, s245, hb_s245, es_u242⟩ := hq
                                                  rw [hr]
                                                  clear hr r
                                                  have hm246 := hm232.go hm244 (by intro i hi; simp only [List.mem_cons, List.not_mem_nil, or_false] at hi ⊢ <;> omega)
                                                  have e247 : u242 75 = nI k19 := (hm244 75 (by decide)).trans e233
                                                  show ST G mi_Mo_derive 469 [(1, .int (nI k234)), (0, .ref 373)] [] u242 0 0 _
                                                  refine ST.lift (fun _ _ k => T_aload_n (v := .ref 373) d_Mo_derive_469 rfl (Or.inr ⟨_, rfl⟩) k) ?_
                                                  refine ST.lift (fun _ _ k => T_aload_n (v := .ref 373) d_Mo_derive_470 rfl (Or.inr ⟨_, rfl⟩) k) ?_
                                                  refine S_getfield d_Mo_derive_471 fg_Mo_338 (w373 _) rfl ?_
                                                  refine ST.lift (fun _ _ k => T_iconst (v := nI 0) d_Mo_derive_474 (by decide) k) ?_
                                                  refine ST.lift (fun _ _ k => T_bipush (v := nI 64) d_Mo_derive_475 (by decide) k) ?_
                                                  refine S_virtual (as := [.ref 408, .int (nI 0), .int (nI 64)]) (rest := []) (b := 373) d_Mo_derive_477 rfl (jw_Mo_mac.jo (by decide)) lm_Mo_90 ji_Mo_mac js_Mo_mac (w373 _) rfl rfl rfl (Nat.le_of_ble_eq_true rfl) (by decide) (by decide) (c_Mo_mac G u242 408 400 (by decide) a408 (by omega) 0 (by omega) s245 es_u242 (by omega) hv243) (fun r u248 hq => ?_)
                                                  obtain ⟨hr, hv249, hm250, es_u248⟩ := hq
                                                  rw [hr]
                                                  clear hr r
                                                  have hm252 := hm246.go hm250 (by intro i hi; simp only [List.mem_cons, List.not_mem_nil, or_false] at hi ⊢ <;> omega)
                                                  have e253 : u248 75 = nI k19 := (hm250 75 (by decide)).trans e247
                                                  show ST G mi_Mo_derive 480 [(1, .int (nI k234)), (0, .ref 373)] [] u248 0 0 _
                                                  refine ST.lift (fun _ _ k => T_iconst (v := nI 0) d_Mo_derive_480 (by decide) k) ?_
                                                  refine ST.lift (fun _ _ k => T_istore_n (L' := [(1, .int (nI 0)), (0, .ref 373)]) d_Mo_derive_481 (by decide) rfl k) ?_
                                                  have lp257 : ∀ (n255 k254 : Nat), 64 - k254 = n255 → 0 ≤ k254 ∧ k254 ≤ 0 + 64 → ST G mi_Mo_derive 482 [(1, .int (nI k254)), (0, .ref 373)] [] u248 0 0 Q := by
                                                    intro n255
                                                    induction n255 using Nat.strongRecOn with
                                                    | _ n255 ih256 =>
                                                      intro k254 h258 h259
                                                      refine ST.lift (fun _ _ k => T_iload_n d_Mo_derive_482 rfl k) ?_
                                                      refine ST.lift (fun _ _ k => T_bipush (v := nI 64) d_Mo_derive_483 (by decide) k) ?_
                                                      refine S_icmp_geN d_Mo_derive_485 rfl (by omega) (by omega) (fun c260 => ?_) (fun c260 => ?_)
                                                      · exact S_vret d_Mo_derive_506 rfl (by decide) (by decide) (hQ _ hv249 hm252 (es_u248.trans (congrArg nI (by omega))))
                                                      · refine ST.lift (fun _ _ k => T_aload_n (v := .ref 373) d_Mo_derive_488 rfl (Or.inr ⟨_, rfl⟩) k) ?_
                                                        refine S_getfield d_Mo_derive_489 fg_Mo_461 (w373 _) rfl ?_
                                                        refine ST.lift (fun _ _ k => T_iload_n d_Mo_derive_492 rfl k) ?_
                                                        refine ST.lift (fun _ _ k => T_aload_n (v := .ref 373) d_Mo_derive_493 rfl (Or.inr ⟨_, rfl⟩) k) ?_
                                                        refine S_getfield d_Mo_derive_494 fg_Mo_55 (w373 _) rfl ?_
                                                        refine ST.lift (fun _ _ k => T_iload_n d_Mo_derive_497 rfl k) ?_
                                                        refine S_iaload d_Mo_derive_498 a383 (vp_in_nI (by omega) (by omega)) (fun z261 => ?_)
                                                        refine S_iastore d_Mo_derive_499 (by decide) a446 (vp_in_nI (by omega) (by omega)) ?_
                                                        refine S_iincN (a := k254) (b := 1) (L' := [(1, .int (nI (k254 + 1))), (0, .ref 373)]) d_Mo_derive_500 (by decide) rfl rfl rfl ?_
                                                        refine ST.lift (fun _ _ k => T_goto (tgt := 482) d_Mo_derive_503 rfl k) ?_
                                                        exact ih256 (64 - (k254 + 1)) (by omega) (k254 + 1)  rfl (by omega)
                                                  exact lp257 _ 0  rfl (by omega)
                                                · refine ST.lift (fun _ _ k => T_aload_n (v := .ref 373) d_Mo_derive_440 rfl (Or.inr ⟨_, rfl⟩) k) ?_
                                                  refine S_getfield d_Mo_derive_441 fg_Mo_452 (w373 _) rfl ?_
                                                  refine ST.lift (fun _ _ k => T_iload_n d_Mo_derive_444 rfl k) ?_
                                                  refine ST.lift (fun _ _ k => T_aload_n (v := .ref 373) d_Mo_derive_445 rfl (Or.inr ⟨_, rfl⟩) k) ?_
                                                  refine S_getfield d_Mo_derive_446 fg_Mo_55 (w373 _) rfl ?_
                                                  refine ST.lift (fun _ _ k => T_iload_n d_Mo_derive_449 rfl k) ?_
                                                  refine S_iaload d_Mo_derive_450 a383 (vp_in_nI (by omega) (by omega)) (fun z262 => ?_)
                                                  refine S_iastore d_Mo_derive_451 (by decide) a443 (vp_in_nI (by omega) (by omega)) ?_
                                                  refine S_iincN (a := k234) (b := 1) (L' := [(1, .int (nI (k234 + 1))), (0, .ref 373)]) d_Mo_derive_452 (by decide) rfl rfl rfl ?_
                                                  refine ST.lift (fun _ _ k => T_goto (tgt := 434) d_Mo_derive_455 rfl k) ?_
                                                  exact ih236 (64 - (k234 + 1)) (by omega) (k234 + 1)  rfl (by omega)
                                            exact lp237 _ 0  rfl (by omega)
                                          · refine ST.lift (fun _ _ k => T_aload_n (v := .ref 373) d_Mo_derive_386 rfl (Or.inr ⟨_, rfl⟩) k) ?_
                                            refine S_getfield d_Mo_derive_387 fg_Mo_338 (w373 _) rfl ?_
                                            refine ST.lift (fun _ _ k => T_iload_n d_Mo_derive_390 rfl k) ?_
                                            refine ST.lift (fun _ _ k => T_aload_n (v := .ref 373) d_Mo_derive_391 rfl (Or.inr ⟨_, rfl⟩) k) ?_
                                            refine S_getfield d_Mo_derive_392 fg_Mo_99 (w373 _) rfl ?_
                                            refine ST.lift (fun _ _ k => T_iload_n d_Mo_derive_395 rfl k) ?_
                                            refine S_iaload d_Mo_derive_396 a388 (vp_in_nI (by omega) (by omega)) (fun z263 => ?_)
                                            refine S_iastore d_Mo_derive_397 (by decide) a408 (vp_in_nI (by omega) (by omega)) ?_
                                            refine S_iincN (a := k208) (b := 1) (L' := [(1, .int (nI (k208 + 1))), (0, .ref 373)]) d_Mo_derive_398 (by decide) rfl rfl rfl ?_
                                            refine ST.lift (fun _ _ k => T_goto (tgt := 380) d_Mo_derive_401 rfl k) ?_
                                            exact ih210 (64 - (k208 + 1)) (by omega) (k208 + 1)  rfl (by omega)
                                      exact lp211 _ 0  rfl (by omega)
                                    · refine ST.lift (fun _ _ k => T_aload_n (v := .ref 373) d_Mo_derive_324 rfl (Or.inr ⟨_, rfl⟩) k) ?_
                                      refine S_getfield d_Mo_derive_325 fg_Mo_458 (w373 _) rfl ?_
                                      refine ST.lift (fun _ _ k => T_iload_n d_Mo_derive_328 rfl k) ?_
                                      refine ST.lift (fun _ _ k => T_aload_n (v := .ref 373) d_Mo_derive_329 rfl (Or.inr ⟨_, rfl⟩) k) ?_
                                      refine S_getfield d_Mo_derive_330 fg_Mo_55 (w373 _) rfl ?_
                                      refine ST.lift (fun _ _ k => T_iload_n d_Mo_derive_333 rfl k) ?_
                                      refine S_iaload d_Mo_derive_334 a383 (vp_in_nI (by omega) (by omega)) (fun z264 => ?_)
                                      refine S_iastore d_Mo_derive_335 (by decide) a445 (vp_in_nI (by omega) (by omega)) ?_
                                      refine S_iincN (a := k172) (b := 1) (L' := [(1, .int (nI (k172 + 1))), (0, .ref 373)]) d_Mo_derive_336 (by decide) rfl rfl rfl ?_
                                      refine ST.lift (fun _ _ k => T_goto (tgt := 318) d_Mo_derive_339 rfl k) ?_
                                      exact ih174 (64 - (k172 + 1)) (by omega) (k172 + 1)  rfl (by omega)
                                exact lp175 _ 0  rfl (by omega)
                              · refine ST.lift (fun _ _ k => T_aload_n (v := .ref 373) d_Mo_derive_276 rfl (Or.inr ⟨_, rfl⟩) k) ?_
                                refine S_getfield d_Mo_derive_277 fg_Mo_338 (w373 _) rfl ?_
                                refine ST.lift (fun _ _ k => T_iload_n d_Mo_derive_280 rfl k) ?_
                                refine ST.lift (fun _ _ k => T_aload_n (v := .ref 373) d_Mo_derive_281 rfl (Or.inr ⟨_, rfl⟩) k) ?_
                                refine S_getfield d_Mo_derive_282 fg_Mo_99 (w373 _) rfl ?_
                                refine ST.lift (fun _ _ k => T_iload_n d_Mo_derive_285 rfl k) ?_
                                refine S_iaload d_Mo_derive_286 a388 (vp_in_nI (by omega) (by omega)) (fun z265 => ?_)
                                refine S_iastore d_Mo_derive_287 (by decide) a408 (vp_in_nI (by omega) (by omega)) ?_
                                refine S_iincN (a := k152) (b := 1) (L' := [(1, .int (nI (k152 + 1))), (0, .ref 373)]) d_Mo_derive_288 (by decide) rfl rfl rfl ?_
                                refine ST.lift (fun _ _ k => T_goto (tgt := 270) d_Mo_derive_291 rfl k) ?_
                                exact ih154 (64 - (k152 + 1)) (by omega) (k152 + 1)  rfl (by omega)
                          exact lp155 _ 0  rfl (by omega)
                        · refine ST.lift (fun _ _ k => T_aload_n (v := .ref 373) d_Mo_derive_214 rfl (Or.inr ⟨_, rfl⟩) k) ?_
                          refine S_getfield d_Mo_derive_215 fg_Mo_464 (w373 _) rfl ?_
                          refine ST.lift (fun _ _ k => T_iload_n d_Mo_derive_218 rfl k) ?_
                          refine ST.lift (fun _ _ k => T_aload_n (v := .ref 373) d_Mo_derive_219 rfl (Or.inr ⟨_, rfl⟩) k) ?_
                          refine S_getfield d_Mo_derive_220 fg_Mo_99 (w373 _) rfl ?_
                          refine ST.lift (fun _ _ k => T_iload_n d_Mo_derive_223 rfl k) ?_
                          refine S_iaload d_Mo_derive_224 a388 (vp_in_nI (by omega) (by omega)) (fun z266 => ?_)
                          refine S_iastore d_Mo_derive_225 (by decide) a447 (vp_in_nI (by omega) (by omega)) ?_
                          refine S_iincN (a := k116) (b := 1) (L' := [(1, .int (nI (k116 + 1))), (0, .ref 373)]) d_Mo_derive_226 (by decide) rfl rfl rfl ?_
                          refine ST.lift (fun _ _ k => T_goto (tgt := 208) d_Mo_derive_229 rfl k) ?_
                          exact ih118 (64 - (k116 + 1)) (by omega) (k116 + 1)  rfl (by omega)
                    exact lp119 _ 0  rfl (by omega)
                  · refine ST.lift (fun _ _ k => T_aload_n (v := .ref 373) d_Mo_derive_140 rfl (Or.inr ⟨_, rfl⟩) k) ?_
                    refine S_getfield d_Mo_derive_141 fg_Mo_455 (w373 _) rfl ?_
                    refine ST.lift (fun _ _ k => T_iload_n d_Mo_derive_144 rfl k) ?_
                    refine ST.lift (fun _ _ k => T_aload_n (v := .ref 373) d_Mo_derive_145 rfl (Or.inr ⟨_, rfl⟩) k) ?_
                    refine S_getfield d_Mo_derive_146 fg_Mo_99 (w373 _) rfl ?_
                    refine ST.lift (fun _ _ k => T_iload_n d_Mo_derive_149 rfl k) ?_
                    refine S_iaload d_Mo_derive_150 a388 (vp_in_nI (by omega) (by omega)) (fun z267 => ?_)
                    refine S_iastore d_Mo_derive_151 (by decide) a444 (vp_in_nI (by omega) (by omega)) ?_
                    refine S_iincN (a := k74) (b := 1) (L' := [(1, .int (nI (k74 + 1))), (0, .ref 373)]) d_Mo_derive_152 (by decide) rfl rfl rfl ?_
                    refine ST.lift (fun _ _ k => T_goto (tgt := 134) d_Mo_derive_155 rfl k) ?_
                    exact ih76 (64 - (k74 + 1)) (by omega) (k74 + 1)  rfl (by omega)
              exact lp77 _ 0  rfl (by omega)
            · refine ST.lift (fun _ _ k => T_aload_n (v := .ref 373) d_Mo_derive_66 rfl (Or.inr ⟨_, rfl⟩) k) ?_
              refine S_getfield d_Mo_derive_67 fg_Mo_452 (w373 _) rfl ?_
              refine ST.lift (fun _ _ k => T_iload_n d_Mo_derive_70 rfl k) ?_
              refine ST.lift (fun _ _ k => T_aload_n (v := .ref 373) d_Mo_derive_71 rfl (Or.inr ⟨_, rfl⟩) k) ?_
              refine S_getfield d_Mo_derive_72 fg_Mo_55 (w373 _) rfl ?_
              refine ST.lift (fun _ _ k => T_iload_n d_Mo_derive_75 rfl k) ?_
              refine S_iaload d_Mo_derive_76 a383 (vp_in_nI (by omega) (by omega)) (fun z268 => ?_)
              refine S_iastore d_Mo_derive_77 (by decide) a443 (vp_in_nI (by omega) (by omega)) ?_
              refine S_iincN (a := k32) (b := 1) (L' := [(1, .int (nI (k32 + 1))), (0, .ref 373)]) d_Mo_derive_78 (by decide) rfl rfl rfl ?_
              refine ST.lift (fun _ _ k => T_goto (tgt := 60) d_Mo_derive_81 rfl k) ?_
              exact ih34 (64 - (k32 + 1)) (by omega) (k32 + 1)  rfl (by omega)
        exact lp35 _ 0  rfl (by omega)
      · refine ST.lift (fun _ _ k => T_aload_n (v := .ref 373) d_Mo_derive_23 rfl (Or.inr ⟨_, rfl⟩) k) ?_
        refine S_getfield d_Mo_derive_24 fg_Mo_449 (w373 _) rfl ?_
        refine ST.lift (fun _ _ k => T_iload_n d_Mo_derive_27 rfl k) ?_
        refine ST.lift (fun _ _ k => T_aload_n (v := .ref 373) d_Mo_derive_28 rfl (Or.inr ⟨_, rfl⟩) k) ?_
        refine S_getfield d_Mo_derive_29 fg_Mo_55 (w373 _) rfl ?_
        refine ST.lift (fun _ _ k => T_iload_n d_Mo_derive_32 rfl k) ?_
        refine S_iaload d_Mo_derive_33 a383 (vp_in_nI (by omega) (by omega)) (fun z269 => ?_)
        refine S_iastore d_Mo_derive_34 (by decide) a442 (vp_in_nI (by omega) (by omega)) ?_
        refine S_iincN (a := k11) (b := 1) (L' := [(1, .int (nI (k11 + 1))), (0, .ref 373)]) d_Mo_derive_35 (by decide) rfl rfl rfl ?_
        refine ST.lift (fun _ _ k => T_goto (tgt := 17) d_Mo_derive_38 rfl k) ?_
        exact ih13 (64 - (k11 + 1)) (by omega) (k11 + 1)  rfl (by omega)
  exact lp14 _ 0  rfl (by omega)
set_option maxRecDepth 100000 in
set_option maxHeartbeats 4000000 in
theorem c_Mo_padOf (G : GX) (v : Nat → Int32) (key mk : Nat) (w_key : K0 ≤ key) (a_key : aI key mk) (l_key : mk ≤ 4000) (kpos : Nat) (b_kpos : kpos + 64 ≤ mk) (b mb : Nat) (w_b : K0 ≤ b) (a_b : aI b mb) (l_b : mb ≤ 4000) (pb : Nat) (b_pb : pb + 32 ≤ mb) (s : Nat) (es : v 67 = nI s) (hs : s ≤ 100) (hv : okv v) : CS G mi_Mo_padOf [.ref 373, .ref key, .int (nI kpos), .ref b, .int (nI pb)] v (fun r v' => r = none ∧ okv v' ∧ mdf [67, 68, 69] v v' ∧ v' 67 = nI 0) := by
  refine CS.of (by decide) (Nat.le_of_ble_eq_true rfl) ?_
  generalize hQe : (fun (r : Option Value) (v' : Nat → Int32) => r = none ∧ okv v' ∧ mdf [67, 68, 69] v v' ∧ v' 67 = nI 0) = Q
  have hQ : ∀ (u : Nat → Int32) , okv u → mdf [67, 68, 69] v u → u 67 = nI 0 → Q none u := by rw [← hQe]; exact fun u h1 h2 h3 => ⟨rfl, h1, h2, h3⟩
  clear hQe
  have hm : mdf [67, 68, 69] v v := mdf.rf
  show ST G mi_Mo_padOf 0 [(0, .ref 373), (1, .ref key), (2, .int (nI kpos)), (3, .ref b), (4, .int (nI pb))] [] v 0 0 Q
  refine ST.lift (fun _ _ k => T_aload_n (v := .ref 373) d_Mo_padOf_0 rfl (Or.inr ⟨_, rfl⟩) k) ?_
  refine ST.lift (fun _ _ k => T_aload_n (v := .ref b) d_Mo_padOf_1 rfl (Or.inr ⟨_, rfl⟩) k) ?_
  refine ST.lift (fun _ _ k => T_iload d_Mo_padOf_2 rfl k) ?_
  refine ST.lift (fun _ _ k => T_bipush (v := nI 32) d_Mo_padOf_4 (by decide) k) ?_
  refine S_virtual (as := [.ref b, .int (nI pb), .int (nI 32)]) (rest := []) (b := 373) d_Mo_padOf_6 rfl (jw_Mo_bytes.jo (by decide)) lm_Mo_76 ji_Mo_bytes js_Mo_bytes (w373 _) rfl rfl rfl (Nat.le_of_ble_eq_true rfl) (by decide) (by decide) (c_Mo_bytes G v b mb w_b a_b (by omega) pb (by omega) 32 (by omega) s es (by omega) hv) (fun r u1 hq => ?_)
  obtain ⟨hr, hv2, hm3, s4, hb_s4, es_u1⟩ := hq
  rw [hr]
  clear hr r
  have hm5 := hm.go hm3 (by intro i hi; simp only [List.mem_cons, List.not_mem_nil, or_false] at hi ⊢ <;> omega)
  show ST G mi_Mo_padOf 9 [(0, .ref 373), (1, .ref key), (2, .int (nI kpos)), (3, .ref b), (4, .int (nI pb))] [] u1 0 0 _
  refine ST.lift (fun _ _ k => T_aload_n (v := .ref 373) d_Mo_padOf_9 rfl (Or.inr ⟨_, rfl⟩) k) ?_
  refine ST.lift (fun _ _ k => T_ldc2 d_Mo_padOf_10 kJ_Mo_572 k) ?_
  refine S_virtual (as := [.long (4860058429759059049)]) (rest := []) (b := 373) d_Mo_padOf_13 rfl (jw_Mo_letters.jo (by decide)) lm_Mo_104 ji_Mo_letters js_Mo_letters (w373 _) rfl rfl rfl (Nat.le_of_ble_eq_true rfl) (by decide) (by decide) (c_Mo_letters G u1 (4860058429759059049) s4 es_u1 (by omega) hv2) (fun r u6 hq => ?_)
  obtain ⟨hr, hv7, hm8, s9, hb_s9, es_u6⟩ := hq
  rw [hr]
  clear hr r
  have hm10 := hm5.go hm8 (by intro i hi; simp only [List.mem_cons, List.not_mem_nil, or_false] at hi ⊢ <;> omega)
  show ST G mi_Mo_padOf 16 [(0, .ref 373), (1, .ref key), (2, .int (nI kpos)), (3, .ref b), (4, .int (nI pb))] [] u6 0 0 _
  refine ST.lift (fun _ _ k => T_aload_n (v := .ref 373) d_Mo_padOf_16 rfl (Or.inr ⟨_, rfl⟩) k) ?_
  refine ST.lift (fun _ _ k => T_ldc2 d_Mo_padOf_17 kJ_Mo_574 k) ?_
  refine S_virtual (as := [.long (7020076514845683566)]) (rest := []) (b := 373) d_Mo_padOf_20 rfl (jw_Mo_letters.jo (by decide)) lm_Mo_104 ji_Mo_letters js_Mo_letters (w373 _) rfl rfl rfl (Nat.le_of_ble_eq_true rfl) (by decide) (by decide) (c_Mo_letters G u6 (7020076514845683566) s9 es_u6 (by omega) hv7) (fun r u11 hq => ?_)
  obtain ⟨hr, hv12, hm13, s14, hb_s14, es_u11⟩ := hq
  rw [hr]
  clear hr r
  have hm15 := hm10.go hm13 (by intro i hi; simp only [List.mem_cons, List.not_mem_nil, or_false] at hi ⊢ <;> omega)
  show ST G mi_Mo_padOf 23 [(0, .ref 373), (1, .ref key), (2, .int (nI kpos)), (3, .ref b), (4, .int (nI pb))] [] u11 0 0 _
  refine ST.lift (fun _ _ k => T_aload_n (v := .ref 373) d_Mo_padOf_23 rfl (Or.inr ⟨_, rfl⟩) k) ?_
  refine ST.lift (fun _ _ k => T_ldc2 d_Mo_padOf_24 kJ_Mo_576 k) ?_
  refine S_virtual (as := [.long (495621005668)]) (rest := []) (b := 373) d_Mo_padOf_27 rfl (jw_Mo_letters.jo (by decide)) lm_Mo_104 ji_Mo_letters js_Mo_letters (w373 _) rfl rfl rfl (Nat.le_of_ble_eq_true rfl) (by decide) (by decide) (c_Mo_letters G u11 (495621005668) s14 es_u11 (by omega) hv12) (fun r u16 hq => ?_)
  obtain ⟨hr, hv17, hm18, s19, hb_s19, es_u16⟩ := hq
  rw [hr]
  clear hr r
  have hm20 := hm15.go hm18 (by intro i hi; simp only [List.mem_cons, List.not_mem_nil, or_false] at hi ⊢ <;> omega)
  show ST G mi_Mo_padOf 30 [(0, .ref 373), (1, .ref key), (2, .int (nI kpos)), (3, .ref b), (4, .int (nI pb))] [] u16 0 0 _
  refine ST.lift (fun _ _ k => T_aload_n (v := .ref 373) d_Mo_padOf_30 rfl (Or.inr ⟨_, rfl⟩) k) ?_
  refine ST.lift (fun _ _ k => T_aload_n (v := .ref key) d_Mo_padOf_31 rfl (Or.inr ⟨_, rfl⟩) k) ?_
  refine ST.lift (fun _ _ k => T_iload_n d_Mo_padOf_32 rfl k) ?_
  refine ST.lift (fun _ _ k => T_sipush (v := nI 128) d_Mo_padOf_33 (by decide) k) ?_
  refine S_virtual (as := [.ref key, .int (nI kpos), .int (nI 128)]) (rest := []) (b := 373) d_Mo_padOf_36 rfl (jw_Mo_expand.jo (by decide)) lm_Mo_510 ji_Mo_expand js_Mo_expand (w373 _) rfl rfl rfl (Nat.le_of_ble_eq_true rfl) (by decide) (by decide) (c_Mo_expand_128 G u16 key mk w_key a_key (by omega) kpos (by omega) s19 es_u16 (by omega) hv17) (fun r u21 hq => ?_)
  obtain ⟨hr, hv22, hm23, es_u21⟩ := hq
  rw [hr]
  clear hr r
  have hm25 := hm20.go hm23 (by intro i hi; simp only [List.mem_cons, List.not_mem_nil, or_false] at hi ⊢ <;> omega)
  show ST G mi_Mo_padOf 39 [(0, .ref 373), (1, .ref key), (2, .int (nI kpos)), (3, .ref b), (4, .int (nI pb))] [] u21 0 0 _
  refine ST.lift (fun _ _ k => T_iconst (v := nI 0) d_Mo_padOf_39 (by decide) k) ?_
  refine ST.lift (fun _ _ k => T_istore (L' := [(5, .int (nI 0)), (0, .ref 373), (1, .ref key), (2, .int (nI kpos)), (3, .ref b), (4, .int (nI pb))]) d_Mo_padOf_40 (by decide) rfl k) ?_
  have lp29 : ∀ (n27 k26 : Nat), 128 - k26 = n27 → 0 ≤ k26 ∧ k26 ≤ 0 + 128 → ST G mi_Mo_padOf 42 [(5, .int (nI k26)), (0, .ref 373), (1, .ref key), (2, .int (nI kpos)), (3, .ref b), (4, .int (nI pb))] [] u21 0 0 Q := by
    intro n27
    induction n27 using Nat.strongRecOn with
    | _ n27 ih28 =>
      intro k26 h30 h31
      refine ST.lift (fun _ _ k => T_iload d_Mo_padOf_42 rfl k) ?_
      refine ST.lift (fun _ _ k => T_sipush (v := nI 128) d_Mo_padOf_44 (by decide) k) ?_
      refine S_icmp_geN d_Mo_padOf_47 rfl (by omega) (by omega) (fun c32 => ?_) (fun c32 => ?_)
      · exact S_vret d_Mo_padOf_70 rfl (by decide) (by decide) (hQ _ hv22 hm25 (es_u21.trans (congrArg nI (by omega))))
      · refine ST.lift (fun _ _ k => T_aload_n (v := .ref 373) d_Mo_padOf_50 rfl (Or.inr ⟨_, rfl⟩) k) ?_
        refine S_getfield d_Mo_padOf_51 fg_Mo_467 (w373 _) rfl ?_
        refine ST.lift (fun _ _ k => T_iload d_Mo_padOf_54 rfl k) ?_
        refine ST.lift (fun _ _ k => T_aload_n (v := .ref 373) d_Mo_padOf_56 rfl (Or.inr ⟨_, rfl⟩) k) ?_
        refine S_getfield d_Mo_padOf_57 fg_Mo_99 (w373 _) rfl ?_
        refine ST.lift (fun _ _ k => T_iload d_Mo_padOf_60 rfl k) ?_
        refine S_iaload d_Mo_padOf_62 a388 (vp_in_nI (by omega) (by omega)) (fun z33 => ?_)
        refine S_iastore d_Mo_padOf_63 (by decide) a448 (vp_in_nI (by omega) (by omega)) ?_
        refine S_iincN (a := k26) (b := 1) (L' := [(5, .int (nI (k26 + 1))), (0, .ref 373), (1, .ref key), (2, .int (nI kpos)), (3, .ref b), (4, .int (nI pb))]) d_Mo_padOf_64 (by decide) rfl rfl rfl ?_
        refine ST.lift (fun _ _ k => T_goto (tgt := 42) d_Mo_padOf_67 rfl k) ?_
        exact ih28 (128 - (k26 + 1)) (by omega) (k26 + 1)  rfl (by omega)
  exact lp29 _ 0  rfl (by omega)
set_option maxRecDepth 100000 in
set_option maxHeartbeats 4000000 in
theorem c_Mo_coded (G : GX) (v : Nat → Int32) (p : Nat) (b_p : p ≤ 60) (hv : okv v) : CS G mi_Mo_coded [.ref 373, .int (nI p)] v (fun r v' => ∃ z : Int32, r = some (.int z) ∧ okv v' ∧ mdf [74] v v') := by
  refine CS.of (by decide) (Nat.le_of_ble_eq_true rfl) ?_
  generalize hQe : (fun (r : Option Value) (v' : Nat → Int32) => ∃ z : Int32, r = some (.int z) ∧ okv v' ∧ mdf [74] v v') = Q
  have hQ : ∀ (z : Int32) (u : Nat → Int32), okv u → mdf [74] v u → Q (some (.int z)) u := by rw [← hQe]; exact fun z u h1 h2 => ⟨z, rfl, h1, h2⟩
  clear hQe
  have hm : mdf [74] v v := mdf.rf
  show ST G mi_Mo_coded 0 [(0, .ref 373), (1, .int (nI p))] [] v 0 0 Q
  refine ST.lift (fun _ _ k => T_aload_n (v := .ref 373) d_Mo_coded_0 rfl (Or.inr ⟨_, rfl⟩) k) ?_
  refine ST.lift (fun _ _ k => T_iload_n d_Mo_coded_1 rfl k) ?_
  refine S_virtual (as := [.int (nI p)]) (rest := []) (b := 373) d_Mo_coded_2 rfl (jw_Mo_code.jo (by decide)) lm_Mo_293 ji_Mo_code js_Mo_code (w373 _) rfl rfl rfl (Nat.le_of_ble_eq_true rfl) (by decide) (by decide) (c_Mo_code G v p (by omega)) (fun r v' hq => ?_)
  rw [hq.1, hq.2]
  clear hq r v'
  show ST G mi_Mo_coded 5 [(0, .ref 373), (1, .int (nI p))] [] v 0 0 _
  refine ST.lift (fun _ _ k => T_iconst (v := nI 0) d_Mo_coded_5 (by decide) k) ?_
  refine ST.lift (fun _ _ k => T_istore_n (L' := [(2, .int (nI 0)), (0, .ref 373), (1, .int (nI p))]) d_Mo_coded_6 (by decide) rfl k) ?_
  have lp4 : ∀ (n2 k1 : Nat), 32 - k1 = n2 → 0 ≤ k1 ∧ k1 ≤ 0 + 32 → ST G mi_Mo_coded 7 [(2, .int (nI k1)), (0, .ref 373), (1, .int (nI p))] [] v 0 0 Q := by
    intro n2
    induction n2 using Nat.strongRecOn with
    | _ n2 ih3 =>
      intro k1 h5 h6
      refine ST.lift (fun _ _ k => T_iload_n d_Mo_coded_7 rfl k) ?_
      refine ST.lift (fun _ _ k => T_bipush (v := nI 32) d_Mo_coded_8 (by decide) k) ?_
      refine S_icmp_geN d_Mo_coded_10 rfl (by omega) (by omega) (fun c7 => ?_) (fun c7 => ?_)
      · refine ST.lift (fun _ _ k => T_aload_n (v := .ref 373) d_Mo_coded_31 rfl (Or.inr ⟨_, rfl⟩) k) ?_
        refine ST.lift (fun _ _ k => T_bipush (v := nI 32) d_Mo_coded_32 (by decide) k) ?_
        refine S_putfield (v' := va_up v 74 (nI 32)) d_Mo_coded_34 (fp_Mo_350 _) (w373 _) (Nat.le_of_ble_eq_true rfl) ⟨rfl, rfl⟩ (u373_45 _ _) ?_
        have hv10 := hv.up (j := 74) (c := 64) (k := 32) (by decide) (by omega)
        have hm11 := hm.go (mdf.up (v := v) (j := 74) (x := (nI 32))) (by intro i hi; simp only [List.mem_cons, List.not_mem_nil, or_false] at hi ⊢ <;> omega)
        have e_u9 : (va_up v 74 (nI 32)) 74 = (nI 32) := by simp [va_up]
        generalize va_up v 74 (nI 32) = u9 at hv10 hm11 e_u9 ⊢
        refine ST.lift (fun _ _ k => T_bipush (v := nI 32) d_Mo_coded_37 (by decide) k) ?_
        exact S_ret d_Mo_coded_39 rfl rfl (by decide) (by decide) (hQ _ _ hv10 hm11)
      · refine ST.lift (fun _ _ k => T_aload_n (v := .ref 373) d_Mo_coded_13 rfl (Or.inr ⟨_, rfl⟩) k) ?_
        refine S_getfield d_Mo_coded_14 fg_Mo_347 (w373 _) rfl ?_
        refine ST.lift (fun _ _ k => T_iload_n d_Mo_coded_17 rfl k) ?_
        refine ST.lift (fun _ _ k => T_aload_n (v := .ref 373) d_Mo_coded_18 rfl (Or.inr ⟨_, rfl⟩) k) ?_
        refine S_getfield d_Mo_coded_19 fg_Mo_146 (w373 _) rfl ?_
        refine ST.lift (fun _ _ k => T_iload_n d_Mo_coded_22 rfl k) ?_
        refine S_iaload d_Mo_coded_23 a394 (vp_in_nI (by omega) (by omega)) (fun z12 => ?_)
        refine S_iastore d_Mo_coded_24 (by decide) a410 (vp_in_nI (by omega) (by omega)) ?_
        refine S_iincN (a := k1) (b := 1) (L' := [(2, .int (nI (k1 + 1))), (0, .ref 373), (1, .int (nI p))]) d_Mo_coded_25 (by decide) rfl rfl rfl ?_
        refine ST.lift (fun _ _ k => T_goto (tgt := 7) d_Mo_coded_28 rfl k) ?_
        exact ih3 (32 - (k1 + 1)) (by omega) (k1 + 1)  rfl (by omega)
  exact lp4 _ 0  rfl (by omega)

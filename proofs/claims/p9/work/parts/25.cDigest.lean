set_option maxRecDepth 100000 in
set_option maxHeartbeats 4000000 in
theorem c_Dig_load_63 (G : GX) (v : Nat → Int32) (a ad ac aj : Nat) (y_a : isBy a ad ac aj) (start : Nat) (b_start : start ≤ 2000) (hv : okv v) : CS G mi_Dig_load [.ref 63, .ref a, .int (nI start)] v (fun r v' => r = none ∧ okv v' ∧ mdf [] v v') := by
  refine CS.of (by decide) (Nat.le_of_ble_eq_true rfl) ?_
  generalize hQe : (fun (r : Option Value) (v' : Nat → Int32) => r = none ∧ okv v' ∧ mdf [] v v') = Q
  have hQ : ∀ u, okv u → mdf [] v u → Q none u := by rw [← hQe]; exact fun u h1 h2 => ⟨rfl, h1, h2⟩
  clear hQe
  have hm : mdf [] v v := mdf.rf
  have l_a := y_a.2.2.2.2.2
  show ST G mi_Dig_load 0 [(0, .ref 63), (1, .ref a), (2, .int (nI start))] [] v 0 0 Q
  refine ST.lift (fun _ _ k => T_iconst (v := nI 0) d_Dig_load_0 (by decide) k) ?_
  refine ST.lift (fun _ _ k => T_istore_n (L' := [(3, .int (nI 0)), (0, .ref 63), (1, .ref a), (2, .int (nI start))]) d_Dig_load_1 (by decide) rfl k) ?_
  have lp4 : ∀ (n2 k1 : Nat), 16 - k1 = n2 → 0 ≤ k1 ∧ k1 ≤ 0 + 16 → ST G mi_Dig_load 2 [(3, .int (nI k1)), (0, .ref 63), (1, .ref a), (2, .int (nI start))] [] v 0 0 Q := by
    intro n2
    induction n2 using Nat.strongRecOn with
    | _ n2 ih3 =>
      intro k1 h5 h6
      refine ST.lift (fun _ _ k => T_iload_n d_Dig_load_2 rfl k) ?_
      refine ST.lift (fun _ _ k => T_bipush (v := nI 16) d_Dig_load_3 (by decide) k) ?_
      refine S_icmp_geN d_Dig_load_5 rfl (by omega) (by omega) (fun c7 => ?_) (fun c7 => ?_)
      · exact S_vret d_Dig_load_105 rfl (by decide) (by decide) (hQ _ hv hm)
      · refine ST.lift (fun _ _ k => T_lconst (v := 0) d_Dig_load_8 (by decide) k) ?_
        refine ST.lift (fun _ _ k => T_lstore (L' := [(4, .long 0), (3, .int (nI k1)), (0, .ref 63), (1, .ref a), (2, .int (nI start))]) d_Dig_load_9 (by decide) rfl k) ?_
        refine ST.lift (fun _ _ k => T_iload_n d_Dig_load_11 rfl k) ?_
        refine ST.lift (fun _ _ k => T_bipush (v := nI 8) d_Dig_load_12 (by decide) k) ?_
        refine ST.lift (fun _ _ k => T_iload_n d_Dig_load_14 rfl k) ?_
        refine S_imulN d_Dig_load_15 ?_
        refine S_iaddN d_Dig_load_16 ?_
        refine ST.lift (fun _ _ k => T_istore (L' := [(6, .int (nI (start + (8 * k1)))), (4, .long 0), (3, .int (nI k1)), (0, .ref 63), (1, .ref a), (2, .int (nI start))]) d_Dig_load_17 (by decide) rfl k) ?_
        have lp12 : ∀ (n10 k8 : Nat) (z9 : Int64), (start + 8 * k1 + 8) - k8 = n10 → (start + (8 * k1)) ≤ k8 ∧ k8 ≤ (start + (8 * k1)) + (start + 8 * k1 + 8) → ST G mi_Dig_load 19 [(6, .int (nI k8)), (4, .long z9), (3, .int (nI k1)), (0, .ref 63), (1, .ref a), (2, .int (nI start))] [] v 0 0 Q := by
          intro n10
          induction n10 using Nat.strongRecOn with
          | _ n10 ih11 =>
            intro k8 z9 h13 h14
            refine ST.lift (fun _ _ k => T_iload d_Dig_load_19 rfl k) ?_
            refine ST.lift (fun _ _ k => T_iload_n d_Dig_load_21 rfl k) ?_
            refine ST.lift (fun _ _ k => T_bipush (v := nI 8) d_Dig_load_22 (by decide) k) ?_
            refine ST.lift (fun _ _ k => T_iload_n d_Dig_load_24 rfl k) ?_
            refine S_imulN d_Dig_load_25 ?_
            refine S_iaddN d_Dig_load_26 ?_
            refine ST.lift (fun _ _ k => T_bipush (v := nI 8) d_Dig_load_27 (by decide) k) ?_
            refine S_iaddN d_Dig_load_29 ?_
            refine S_icmp_geN d_Dig_load_30 rfl (by omega) (by omega) (fun c15 => ?_) (fun c15 => ?_)
            · refine ST.lift (fun _ _ k => T_aload_n (v := .ref 63) d_Dig_load_91 rfl (Or.inr ⟨_, rfl⟩) k) ?_
              refine S_getfield d_Dig_load_92 fg_Dig_13 (w63 _) rfl ?_
              refine ST.lift (fun _ _ k => T_iload_n d_Dig_load_95 rfl k) ?_
              refine ST.lift (fun _ _ k => T_lload d_Dig_load_96 rfl k) ?_
              refine S_lastore d_Dig_load_98 (by decide) a65 (vp_in_nI (by omega) (by omega)) ?_
              refine S_iincN (a := k1) (b := 1) (L' := [(3, .int (nI (k1 + 1))), (6, .int (nI k8)), (4, .long z9), (0, .ref 63), (1, .ref a), (2, .int (nI start))]) d_Dig_load_99 (by decide) rfl rfl rfl ?_
              refine ST.lift (fun _ _ k => T_goto (tgt := 2) d_Dig_load_102 rfl k) ?_
              refine S_pick [0, 3, 4, 5] rfl ?_
              exact ih3 (16 - (k1 + 1)) (by omega) (k1 + 1)  rfl (by omega)
            · refine ST.lift (fun _ _ k => T_iload d_Dig_load_33 rfl k) ?_
              refine ST.lift (fun _ _ k => T_aload_n (v := .ref a) d_Dig_load_35 rfl (Or.inr ⟨_, rfl⟩) k) ?_
              obtain ⟨k29, hk29, ek29⟩ := hv.get (j := aj) (c := ac) y_a.2.2.2.2.1
              refine S_getfield d_Dig_load_36 fg_Dig_25 (y_a.1 _) rfl ?_
              refine S_topi (y := nI k29) (ek29) ?_
              have J72_35 : ∀ (z34 : Int32), ST G mi_Dig_load 72 [(6, .int (nI k8)), (4, .long z9), (3, .int (nI k1)), (0, .ref 63), (1, .ref a), (2, .int (nI start))] [.int z34] v 0 0 Q := by
                intro z34
                refine ST.lift (fun _ _ k => T_istore (L' := [(7, .int z34), (6, .int (nI k8)), (4, .long z9), (3, .int (nI k1)), (0, .ref 63), (1, .ref a), (2, .int (nI start))]) d_Dig_load_72 (by decide) rfl k) ?_
                refine ST.lift (fun _ _ k => T_lload d_Dig_load_74 rfl k) ?_
                refine ST.lift (fun _ _ k => T_bipush (v := nI 8) d_Dig_load_76 (by decide) k) ?_
                refine ST.lift (fun _ _ k => T_lshl d_Dig_load_78 k) (S_anyl fun z36 => ?_)
                refine ST.lift (fun _ _ k => T_iload d_Dig_load_79 rfl k) ?_
                refine ST.lift (fun _ _ k => T_i2l d_Dig_load_81 k) (S_anyl fun z37 => ?_)
                refine ST.lift (fun _ _ k => T_lor d_Dig_load_82 k) (S_anyl fun z38 => ?_)
                refine ST.lift (fun _ _ k => T_lstore (L' := [(4, .long z38), (7, .int z34), (6, .int (nI k8)), (3, .int (nI k1)), (0, .ref 63), (1, .ref a), (2, .int (nI start))]) d_Dig_load_83 (by decide) rfl k) ?_
                refine S_iincN (a := k8) (b := 1) (L' := [(6, .int (nI (k8 + 1))), (4, .long z38), (7, .int z34), (3, .int (nI k1)), (0, .ref 63), (1, .ref a), (2, .int (nI start))]) d_Dig_load_85 (by decide) rfl rfl rfl ?_
                refine ST.lift (fun _ _ k => T_goto (tgt := 19) d_Dig_load_88 rfl k) ?_
                refine S_pick [0, 1, 3, 4, 5, 6] rfl ?_
                exact ih11 ((start + 8 * k1 + 8) - (k8 + 1)) (by omega) (k8 + 1) z38 rfl (by omega)
              refine S_icmp_geN d_Dig_load_39 rfl (by omega) (by omega) (fun c30 => ?_) (fun c30 => ?_)
              · refine ST.lift (fun _ _ k => T_iload d_Dig_load_56 rfl k) ?_
                refine ST.lift (fun _ _ k => T_aload_n (v := .ref a) d_Dig_load_58 rfl (Or.inr ⟨_, rfl⟩) k) ?_
                refine S_getfield d_Dig_load_59 fg_Dig_25 (y_a.1 _) rfl ?_
                refine S_topi (y := nI k29) (ek29) ?_
                refine S_icmp_neN d_Dig_load_62 rfl (by omega) (by omega) (fun c39 => ?_) (fun c39 => ?_)
                · refine ST.lift (fun _ _ k => T_iconst (v := nI 0) d_Dig_load_71 (by decide) k) ?_
                  exact J72_35 (nI 0)
                · refine ST.lift (fun _ _ k => T_sipush (v := nI 128) d_Dig_load_65 (by decide) k) ?_
                  refine ST.lift (fun _ _ k => T_goto (tgt := 72) d_Dig_load_68 rfl k) ?_
                  exact J72_35 (nI 128)
              · refine ST.lift (fun _ _ k => T_aload_n (v := .ref a) d_Dig_load_42 rfl (Or.inr ⟨_, rfl⟩) k) ?_
                refine S_getfield d_Dig_load_43 fg_Dig_40 (y_a.1 _) rfl ?_
                refine ST.lift (fun _ _ k => T_iload d_Dig_load_46 rfl k) ?_
                refine S_baload d_Dig_load_48 y_a.2.1 (vp_in_nI (by omega) (by omega)) (fun z40 hz40 => ?_)
                refine ST.lift (fun _ _ k => T_sipush (v := nI 255) d_Dig_load_49 (by decide) k) ?_
                refine S_iandM 8 d_Dig_load_52 (by decide) (by decide) (fun j41 hj41 => ?_)
                simp only [Nat.reducePow] at hj41
                refine ST.lift (fun _ _ k => T_goto (tgt := 72) d_Dig_load_53 rfl k) ?_
                exact J72_35 (nI j41)
        exact lp12 _ (start + (8 * k1)) 0 rfl (by omega)
  exact lp4 _ 0  rfl (by omega)
set_option maxRecDepth 100000 in
set_option maxHeartbeats 4000000 in
theorem c_Dig_mix_63 (G : GX) (v : Nat → Int32) : CS G mi_Dig_mix [.ref 63] v (fun r v' => r = none ∧ v' = v) := by
  refine CS.of (by decide) (Nat.le_of_ble_eq_true rfl) ?_
  generalize hQe : (fun (r : Option Value) (v' : Nat → Int32) => r = none ∧ v' = v) = Q
  have hQ : Q none v := by rw [← hQe]; exact ⟨rfl, rfl⟩
  clear hQe
  show ST G mi_Dig_mix 0 [(0, .ref 63)] [] v 0 0 Q
  refine ST.lift (fun _ _ k => T_bipush (v := nI 16) d_Dig_mix_0 (by decide) k) ?_
  refine ST.lift (fun _ _ k => T_istore_n (L' := [(1, .int (nI 16)), (0, .ref 63)]) d_Dig_mix_2 (by decide) rfl k) ?_
  have lp4 : ∀ (n2 k1 : Nat), 80 - k1 = n2 → 16 ≤ k1 ∧ k1 ≤ 16 + 80 → ST G mi_Dig_mix 3 [(1, .int (nI k1)), (0, .ref 63)] [] v 0 0 Q := by
    intro n2
    induction n2 using Nat.strongRecOn with
    | _ n2 ih3 =>
      intro k1 h5 h6
      refine ST.lift (fun _ _ k => T_iload_n d_Dig_mix_3 rfl k) ?_
      refine ST.lift (fun _ _ k => T_bipush (v := nI 80) d_Dig_mix_4 (by decide) k) ?_
      refine S_icmp_geN d_Dig_mix_6 rfl (by omega) (by omega) (fun c7 => ?_) (fun c7 => ?_)
      · refine ST.lift (fun _ _ k => T_aload_n (v := .ref 63) d_Dig_mix_119 rfl (Or.inr ⟨_, rfl⟩) k) ?_
        refine S_getfield d_Dig_mix_120 fg_Dig_7 (w63 _) rfl ?_
        refine ST.lift (fun _ _ k => T_iconst (v := nI 0) d_Dig_mix_123 (by decide) k) ?_
        refine S_laload d_Dig_mix_124 a64 (vp_in_nI (by omega) (by omega)) (fun z33 => ?_)
        refine ST.lift (fun _ _ k => T_lstore_n (L' := [(1, .long z33), (0, .ref 63)]) d_Dig_mix_125 (by decide) rfl k) ?_
        refine ST.lift (fun _ _ k => T_aload_n (v := .ref 63) d_Dig_mix_126 rfl (Or.inr ⟨_, rfl⟩) k) ?_
        refine S_getfield d_Dig_mix_127 fg_Dig_7 (w63 _) rfl ?_
        refine ST.lift (fun _ _ k => T_iconst (v := nI 1) d_Dig_mix_130 (by decide) k) ?_
        refine S_laload d_Dig_mix_131 a64 (vp_in_nI (by omega) (by omega)) (fun z34 => ?_)
        refine ST.lift (fun _ _ k => T_lstore_n (L' := [(3, .long z34), (1, .long z33), (0, .ref 63)]) d_Dig_mix_132 (by decide) rfl k) ?_
        refine ST.lift (fun _ _ k => T_aload_n (v := .ref 63) d_Dig_mix_133 rfl (Or.inr ⟨_, rfl⟩) k) ?_
        refine S_getfield d_Dig_mix_134 fg_Dig_7 (w63 _) rfl ?_
        refine ST.lift (fun _ _ k => T_iconst (v := nI 2) d_Dig_mix_137 (by decide) k) ?_
        refine S_laload d_Dig_mix_138 a64 (vp_in_nI (by omega) (by omega)) (fun z35 => ?_)
        refine ST.lift (fun _ _ k => T_lstore (L' := [(5, .long z35), (3, .long z34), (1, .long z33), (0, .ref 63)]) d_Dig_mix_139 (by decide) rfl k) ?_
        refine ST.lift (fun _ _ k => T_aload_n (v := .ref 63) d_Dig_mix_141 rfl (Or.inr ⟨_, rfl⟩) k) ?_
        refine S_getfield d_Dig_mix_142 fg_Dig_7 (w63 _) rfl ?_
        refine ST.lift (fun _ _ k => T_iconst (v := nI 3) d_Dig_mix_145 (by decide) k) ?_
        refine S_laload d_Dig_mix_146 a64 (vp_in_nI (by omega) (by omega)) (fun z36 => ?_)
        refine ST.lift (fun _ _ k => T_lstore (L' := [(7, .long z36), (5, .long z35), (3, .long z34), (1, .long z33), (0, .ref 63)]) d_Dig_mix_147 (by decide) rfl k) ?_
        refine ST.lift (fun _ _ k => T_aload_n (v := .ref 63) d_Dig_mix_149 rfl (Or.inr ⟨_, rfl⟩) k) ?_
        refine S_getfield d_Dig_mix_150 fg_Dig_7 (w63 _) rfl ?_
        refine ST.lift (fun _ _ k => T_iconst (v := nI 4) d_Dig_mix_153 (by decide) k) ?_
        refine S_laload d_Dig_mix_154 a64 (vp_in_nI (by omega) (by omega)) (fun z37 => ?_)
        refine ST.lift (fun _ _ k => T_lstore (L' := [(9, .long z37), (7, .long z36), (5, .long z35), (3, .long z34), (1, .long z33), (0, .ref 63)]) d_Dig_mix_155 (by decide) rfl k) ?_
        refine ST.lift (fun _ _ k => T_aload_n (v := .ref 63) d_Dig_mix_157 rfl (Or.inr ⟨_, rfl⟩) k) ?_
        refine S_getfield d_Dig_mix_158 fg_Dig_7 (w63 _) rfl ?_
        refine ST.lift (fun _ _ k => T_iconst (v := nI 5) d_Dig_mix_161 (by decide) k) ?_
        refine S_laload d_Dig_mix_162 a64 (vp_in_nI (by omega) (by omega)) (fun z38 => ?_)
        refine ST.lift (fun _ _ k => T_lstore (L' := [(11, .long z38), (9, .long z37), (7, .long z36), (5, .long z35), (3, .long z34), (1, .long z33), (0, .ref 63)]) d_Dig_mix_163 (by decide) rfl k) ?_
        refine ST.lift (fun _ _ k => T_aload_n (v := .ref 63) d_Dig_mix_165 rfl (Or.inr ⟨_, rfl⟩) k) ?_
        refine S_getfield d_Dig_mix_166 fg_Dig_7 (w63 _) rfl ?_
        refine ST.lift (fun _ _ k => T_bipush (v := nI 6) d_Dig_mix_169 (by decide) k) ?_
        refine S_laload d_Dig_mix_171 a64 (vp_in_nI (by omega) (by omega)) (fun z39 => ?_)
        refine ST.lift (fun _ _ k => T_lstore (L' := [(13, .long z39), (11, .long z38), (9, .long z37), (7, .long z36), (5, .long z35), (3, .long z34), (1, .long z33), (0, .ref 63)]) d_Dig_mix_172 (by decide) rfl k) ?_
        refine ST.lift (fun _ _ k => T_aload_n (v := .ref 63) d_Dig_mix_174 rfl (Or.inr ⟨_, rfl⟩) k) ?_
        refine S_getfield d_Dig_mix_175 fg_Dig_7 (w63 _) rfl ?_
        refine ST.lift (fun _ _ k => T_bipush (v := nI 7) d_Dig_mix_178 (by decide) k) ?_
        refine S_laload d_Dig_mix_180 a64 (vp_in_nI (by omega) (by omega)) (fun z40 => ?_)
        refine ST.lift (fun _ _ k => T_lstore (L' := [(15, .long z40), (13, .long z39), (11, .long z38), (9, .long z37), (7, .long z36), (5, .long z35), (3, .long z34), (1, .long z33), (0, .ref 63)]) d_Dig_mix_181 (by decide) rfl k) ?_
        refine ST.lift (fun _ _ k => T_iconst (v := nI 0) d_Dig_mix_183 (by decide) k) ?_
        refine ST.lift (fun _ _ k => T_istore (L' := [(17, .int (nI 0)), (15, .long z40), (13, .long z39), (11, .long z38), (9, .long z37), (7, .long z36), (5, .long z35), (3, .long z34), (1, .long z33), (0, .ref 63)]) d_Dig_mix_184 (by decide) rfl k) ?_
        have lp52 : ∀ (n50 k41 : Nat) (z42 : Int64) (z43 : Int64) (z44 : Int64) (z45 : Int64) (z46 : Int64) (z47 : Int64) (z48 : Int64) (z49 : Int64), 80 - k41 = n50 → 0 ≤ k41 ∧ k41 ≤ 0 + 80 → ST G mi_Dig_mix 186 [(17, .int (nI k41)), (15, .long z42), (13, .long z43), (11, .long z44), (9, .long z45), (7, .long z46), (5, .long z47), (3, .long z48), (1, .long z49), (0, .ref 63)] [] v 0 0 Q := by
          intro n50
          induction n50 using Nat.strongRecOn with
          | _ n50 ih51 =>
            intro k41 z42 z43 z44 z45 z46 z47 z48 z49 h53 h54
            refine ST.lift (fun _ _ k => T_iload d_Dig_mix_186 rfl k) ?_
            refine ST.lift (fun _ _ k => T_bipush (v := nI 80) d_Dig_mix_188 (by decide) k) ?_
            refine S_icmp_geN d_Dig_mix_190 rfl (by omega) (by omega) (fun c55 => ?_) (fun c55 => ?_)
            · refine ST.lift (fun _ _ k => T_aload_n (v := .ref 63) d_Dig_mix_357 rfl (Or.inr ⟨_, rfl⟩) k) ?_
              refine S_getfield d_Dig_mix_358 fg_Dig_7 (w63 _) rfl ?_
              refine ST.lift (fun _ _ k => T_iconst (v := nI 0) d_Dig_mix_361 (by decide) k) ?_
              refine ST.lift (fun _ _ k => T_dup2 d_Dig_mix_362 rfl rfl k) ?_
              refine S_laload d_Dig_mix_363 a64 (vp_in_nI (by omega) (by omega)) (fun z96 => ?_)
              refine ST.lift (fun _ _ k => T_lload_n d_Dig_mix_364 rfl k) ?_
              refine ST.lift (fun _ _ k => T_ladd d_Dig_mix_365 k) (S_anyl fun z97 => ?_)
              refine S_lastore d_Dig_mix_366 (by decide) a64 (vp_in_nI (by omega) (by omega)) ?_
              refine ST.lift (fun _ _ k => T_aload_n (v := .ref 63) d_Dig_mix_367 rfl (Or.inr ⟨_, rfl⟩) k) ?_
              refine S_getfield d_Dig_mix_368 fg_Dig_7 (w63 _) rfl ?_
              refine ST.lift (fun _ _ k => T_iconst (v := nI 1) d_Dig_mix_371 (by decide) k) ?_
              refine ST.lift (fun _ _ k => T_dup2 d_Dig_mix_372 rfl rfl k) ?_
              refine S_laload d_Dig_mix_373 a64 (vp_in_nI (by omega) (by omega)) (fun z98 => ?_)
              refine ST.lift (fun _ _ k => T_lload_n d_Dig_mix_374 rfl k) ?_
              refine ST.lift (fun _ _ k => T_ladd d_Dig_mix_375 k) (S_anyl fun z99 => ?_)
              refine S_lastore d_Dig_mix_376 (by decide) a64 (vp_in_nI (by omega) (by omega)) ?_
              refine ST.lift (fun _ _ k => T_aload_n (v := .ref 63) d_Dig_mix_377 rfl (Or.inr ⟨_, rfl⟩) k) ?_
              refine S_getfield d_Dig_mix_378 fg_Dig_7 (w63 _) rfl ?_
              refine ST.lift (fun _ _ k => T_iconst (v := nI 2) d_Dig_mix_381 (by decide) k) ?_
              refine ST.lift (fun _ _ k => T_dup2 d_Dig_mix_382 rfl rfl k) ?_
              refine S_laload d_Dig_mix_383 a64 (vp_in_nI (by omega) (by omega)) (fun z100 => ?_)
              refine ST.lift (fun _ _ k => T_lload d_Dig_mix_384 rfl k) ?_
              refine ST.lift (fun _ _ k => T_ladd d_Dig_mix_386 k) (S_anyl fun z101 => ?_)
              refine S_lastore d_Dig_mix_387 (by decide) a64 (vp_in_nI (by omega) (by omega)) ?_
              refine ST.lift (fun _ _ k => T_aload_n (v := .ref 63) d_Dig_mix_388 rfl (Or.inr ⟨_, rfl⟩) k) ?_
              refine S_getfield d_Dig_mix_389 fg_Dig_7 (w63 _) rfl ?_
              refine ST.lift (fun _ _ k => T_iconst (v := nI 3) d_Dig_mix_392 (by decide) k) ?_
              refine ST.lift (fun _ _ k => T_dup2 d_Dig_mix_393 rfl rfl k) ?_
              refine S_laload d_Dig_mix_394 a64 (vp_in_nI (by omega) (by omega)) (fun z102 => ?_)
              refine ST.lift (fun _ _ k => T_lload d_Dig_mix_395 rfl k) ?_
              refine ST.lift (fun _ _ k => T_ladd d_Dig_mix_397 k) (S_anyl fun z103 => ?_)
              refine S_lastore d_Dig_mix_398 (by decide) a64 (vp_in_nI (by omega) (by omega)) ?_
              refine ST.lift (fun _ _ k => T_aload_n (v := .ref 63) d_Dig_mix_399 rfl (Or.inr ⟨_, rfl⟩) k) ?_
              refine S_getfield d_Dig_mix_400 fg_Dig_7 (w63 _) rfl ?_
              refine ST.lift (fun _ _ k => T_iconst (v := nI 4) d_Dig_mix_403 (by decide) k) ?_
              refine ST.lift (fun _ _ k => T_dup2 d_Dig_mix_404 rfl rfl k) ?_
              refine S_laload d_Dig_mix_405 a64 (vp_in_nI (by omega) (by omega)) (fun z104 => ?_)
              refine ST.lift (fun _ _ k => T_lload d_Dig_mix_406 rfl k) ?_
              refine ST.lift (fun _ _ k => T_ladd d_Dig_mix_408 k) (S_anyl fun z105 => ?_)
              refine S_lastore d_Dig_mix_409 (by decide) a64 (vp_in_nI (by omega) (by omega)) ?_
              refine ST.lift (fun _ _ k => T_aload_n (v := .ref 63) d_Dig_mix_410 rfl (Or.inr ⟨_, rfl⟩) k) ?_
              refine S_getfield d_Dig_mix_411 fg_Dig_7 (w63 _) rfl ?_
              refine ST.lift (fun _ _ k => T_iconst (v := nI 5) d_Dig_mix_414 (by decide) k) ?_
              refine ST.lift (fun _ _ k => T_dup2 d_Dig_mix_415 rfl rfl k) ?_
              refine S_laload d_Dig_mix_416 a64 (vp_in_nI (by omega) (by omega)) (fun z106 => ?_)
              refine ST.lift (fun _ _ k => T_lload d_Dig_mix_417 rfl k) ?_
              refine ST.lift (fun _ _ k => T_ladd d_Dig_mix_419 k) (S_anyl fun z107 => ?_)
              refine S_lastore d_Dig_mix_420 (by decide) a64 (vp_in_nI (by omega) (by omega)) ?_
              refine ST.lift (fun _ _ k => T_aload_n (v := .ref 63) d_Dig_mix_421 rfl (Or.inr ⟨_, rfl⟩) k) ?_
              refine S_getfield d_Dig_mix_422 fg_Dig_7 (w63 _) rfl ?_
              refine ST.lift (fun _ _ k => T_bipush (v := nI 6) d_Dig_mix_425 (by decide) k) ?_
              refine ST.lift (fun _ _ k => T_dup2 d_Dig_mix_427 rfl rfl k) ?_
              refine S_laload d_Dig_mix_428 a64 (vp_in_nI (by omega) (by omega)) (fun z108 => ?_)
              refine ST.lift (fun _ _ k => T_lload d_Dig_mix_429 rfl k) ?_
              refine ST.lift (fun _ _ k => T_ladd d_Dig_mix_431 k) (S_anyl fun z109 => ?_)
              refine S_lastore d_Dig_mix_432 (by decide) a64 (vp_in_nI (by omega) (by omega)) ?_
              refine ST.lift (fun _ _ k => T_aload_n (v := .ref 63) d_Dig_mix_433 rfl (Or.inr ⟨_, rfl⟩) k) ?_
              refine S_getfield d_Dig_mix_434 fg_Dig_7 (w63 _) rfl ?_
              refine ST.lift (fun _ _ k => T_bipush (v := nI 7) d_Dig_mix_437 (by decide) k) ?_
              refine ST.lift (fun _ _ k => T_dup2 d_Dig_mix_439 rfl rfl k) ?_
              refine S_laload d_Dig_mix_440 a64 (vp_in_nI (by omega) (by omega)) (fun z110 => ?_)
              refine ST.lift (fun _ _ k => T_lload d_Dig_mix_441 rfl k) ?_
              refine ST.lift (fun _ _ k => T_ladd d_Dig_mix_443 k) (S_anyl fun z111 => ?_)
              refine S_lastore d_Dig_mix_444 (by decide) a64 (vp_in_nI (by omega) (by omega)) ?_
              exact S_vret d_Dig_mix_445 rfl (by decide) (by decide) hQ
            · refine ST.lift (fun _ _ k => T_lload d_Dig_mix_193 rfl k) ?_
              refine ST.lift (fun _ _ k => T_bipush (v := nI 14) d_Dig_mix_195 (by decide) k) ?_
              refine ST.lift (fun _ _ k => T_lushr d_Dig_mix_197 k) (S_anyl fun z112 => ?_)
              refine ST.lift (fun _ _ k => T_lload d_Dig_mix_198 rfl k) ?_
              refine ST.lift (fun _ _ k => T_bipush (v := nI 50) d_Dig_mix_200 (by decide) k) ?_
              refine ST.lift (fun _ _ k => T_lshl d_Dig_mix_202 k) (S_anyl fun z113 => ?_)
              refine ST.lift (fun _ _ k => T_lor d_Dig_mix_203 k) (S_anyl fun z114 => ?_)
              refine ST.lift (fun _ _ k => T_lload d_Dig_mix_204 rfl k) ?_
              refine ST.lift (fun _ _ k => T_bipush (v := nI 18) d_Dig_mix_206 (by decide) k) ?_
              refine ST.lift (fun _ _ k => T_lushr d_Dig_mix_208 k) (S_anyl fun z115 => ?_)
              refine ST.lift (fun _ _ k => T_lload d_Dig_mix_209 rfl k) ?_
              refine ST.lift (fun _ _ k => T_bipush (v := nI 46) d_Dig_mix_211 (by decide) k) ?_
              refine ST.lift (fun _ _ k => T_lshl d_Dig_mix_213 k) (S_anyl fun z116 => ?_)
              refine ST.lift (fun _ _ k => T_lor d_Dig_mix_214 k) (S_anyl fun z117 => ?_)
              refine ST.lift (fun _ _ k => T_lxor d_Dig_mix_215 k) (S_anyl fun z118 => ?_)
              refine ST.lift (fun _ _ k => T_lload d_Dig_mix_216 rfl k) ?_
              refine ST.lift (fun _ _ k => T_bipush (v := nI 41) d_Dig_mix_218 (by decide) k) ?_
              refine ST.lift (fun _ _ k => T_lushr d_Dig_mix_220 k) (S_anyl fun z119 => ?_)
              refine ST.lift (fun _ _ k => T_lload d_Dig_mix_221 rfl k) ?_
              refine ST.lift (fun _ _ k => T_bipush (v := nI 23) d_Dig_mix_223 (by decide) k) ?_
              refine ST.lift (fun _ _ k => T_lshl d_Dig_mix_225 k) (S_anyl fun z120 => ?_)
              refine ST.lift (fun _ _ k => T_lor d_Dig_mix_226 k) (S_anyl fun z121 => ?_)
              refine ST.lift (fun _ _ k => T_lxor d_Dig_mix_227 k) (S_anyl fun z122 => ?_)
              refine ST.lift (fun _ _ k => T_lstore (L' := [(18, .long z122), (17, .int (nI k41)), (15, .long z42), (13, .long z43), (11, .long z44), (9, .long z45), (7, .long z46), (5, .long z47), (3, .long z48), (1, .long z49), (0, .ref 63)]) d_Dig_mix_228 (by decide) rfl k) ?_
              refine ST.lift (fun _ _ k => T_lload d_Dig_mix_230 rfl k) ?_
              refine ST.lift (fun _ _ k => T_lload d_Dig_mix_232 rfl k) ?_
              refine ST.lift (fun _ _ k => T_ladd d_Dig_mix_234 k) (S_anyl fun z123 => ?_)
              refine ST.lift (fun _ _ k => T_lload d_Dig_mix_235 rfl k) ?_
              refine ST.lift (fun _ _ k => T_lload d_Dig_mix_237 rfl k) ?_
              refine ST.lift (fun _ _ k => T_land d_Dig_mix_239 k) (S_anyl fun z124 => ?_)
              refine ST.lift (fun _ _ k => T_lload d_Dig_mix_240 rfl k) ?_
              refine ST.lift (fun _ _ k => T_ldc2 d_Dig_mix_242 kJ_Dig_44 k) ?_
              refine ST.lift (fun _ _ k => T_lxor d_Dig_mix_245 k) (S_anyl fun z125 => ?_)
              refine ST.lift (fun _ _ k => T_lload d_Dig_mix_246 rfl k) ?_
              refine ST.lift (fun _ _ k => T_land d_Dig_mix_248 k) (S_anyl fun z126 => ?_)
              refine ST.lift (fun _ _ k => T_lxor d_Dig_mix_249 k) (S_anyl fun z127 => ?_)
              refine ST.lift (fun _ _ k => T_ladd d_Dig_mix_250 k) (S_anyl fun z128 => ?_)
              refine ST.lift (fun _ _ k => T_getstatic (q := ("PasswordGate$Digest", "ADDED", "[J", .ref 1)) d_Dig_mix_251 (List.mem_of_getElem? (i := 1) rfl) gs_Dig_46 (show 1 < K0 by decide) k) ?_
              refine ST.lift (fun _ _ k => T_iload d_Dig_mix_254 rfl k) ?_
              refine S_laload d_Dig_mix_256 a1 (vp_in_nI (by omega) (by omega)) (fun z129 => ?_)
              refine ST.lift (fun _ _ k => T_ladd d_Dig_mix_257 k) (S_anyl fun z130 => ?_)
              refine ST.lift (fun _ _ k => T_aload_n (v := .ref 63) d_Dig_mix_258 rfl (Or.inr ⟨_, rfl⟩) k) ?_
              refine S_getfield d_Dig_mix_259 fg_Dig_13 (w63 _) rfl ?_
              refine ST.lift (fun _ _ k => T_iload d_Dig_mix_262 rfl k) ?_
              refine S_laload d_Dig_mix_264 a65 (vp_in_nI (by omega) (by omega)) (fun z131 => ?_)
              refine ST.lift (fun _ _ k => T_ladd d_Dig_mix_265 k) (S_anyl fun z132 => ?_)
              refine ST.lift (fun _ _ k => T_lstore (L' := [(20, .long z132), (18, .long z122), (17, .int (nI k41)), (15, .long z42), (13, .long z43), (11, .long z44), (9, .long z45), (7, .long z46), (5, .long z47), (3, .long z48), (1, .long z49), (0, .ref 63)]) d_Dig_mix_266 (by decide) rfl k) ?_
              refine ST.lift (fun _ _ k => T_lload_n d_Dig_mix_268 rfl k) ?_
              refine ST.lift (fun _ _ k => T_bipush (v := nI 28) d_Dig_mix_269 (by decide) k) ?_
              refine ST.lift (fun _ _ k => T_lushr d_Dig_mix_271 k) (S_anyl fun z133 => ?_)
              refine ST.lift (fun _ _ k => T_lload_n d_Dig_mix_272 rfl k) ?_
              refine ST.lift (fun _ _ k => T_bipush (v := nI 36) d_Dig_mix_273 (by decide) k) ?_
              refine ST.lift (fun _ _ k => T_lshl d_Dig_mix_275 k) (S_anyl fun z134 => ?_)
              refine ST.lift (fun _ _ k => T_lor d_Dig_mix_276 k) (S_anyl fun z135 => ?_)
              refine ST.lift (fun _ _ k => T_lload_n d_Dig_mix_277 rfl k) ?_
              refine ST.lift (fun _ _ k => T_bipush (v := nI 34) d_Dig_mix_278 (by decide) k) ?_
              refine ST.lift (fun _ _ k => T_lushr d_Dig_mix_280 k) (S_anyl fun z136 => ?_)
              refine ST.lift (fun _ _ k => T_lload_n d_Dig_mix_281 rfl k) ?_
              refine ST.lift (fun _ _ k => T_bipush (v := nI 30) d_Dig_mix_282 (by decide) k) ?_
              refine ST.lift (fun _ _ k => T_lshl d_Dig_mix_284 k) (S_anyl fun z137 => ?_)
              refine ST.lift (fun _ _ k => T_lor d_Dig_mix_285 k) (S_anyl fun z138 => ?_)
              refine ST.lift (fun _ _ k => T_lxor d_Dig_mix_286 k) (S_anyl fun z139 => ?_)
              refine ST.lift (fun _ _ k => T_lload_n d_Dig_mix_287 rfl k) ?_
              refine ST.lift (fun _ _ k => T_bipush (v := nI 39) d_Dig_mix_288 (by decide) k) ?_
              refine ST.lift (fun _ _ k => T_lushr d_Dig_mix_290 k) (S_anyl fun z140 => ?_)
              refine ST.lift (fun _ _ k => T_lload_n d_Dig_mix_291 rfl k) ?_
              refine ST.lift (fun _ _ k => T_bipush (v := nI 25) d_Dig_mix_292 (by decide) k) ?_
              refine ST.lift (fun _ _ k => T_lshl d_Dig_mix_294 k) (S_anyl fun z141 => ?_)
              refine ST.lift (fun _ _ k => T_lor d_Dig_mix_295 k) (S_anyl fun z142 => ?_)
              refine ST.lift (fun _ _ k => T_lxor d_Dig_mix_296 k) (S_anyl fun z143 => ?_)
              refine ST.lift (fun _ _ k => T_lstore (L' := [(18, .long z143), (20, .long z132), (17, .int (nI k41)), (15, .long z42), (13, .long z43), (11, .long z44), (9, .long z45), (7, .long z46), (5, .long z47), (3, .long z48), (1, .long z49), (0, .ref 63)]) d_Dig_mix_297 (by decide) rfl k) ?_
              refine ST.lift (fun _ _ k => T_lload d_Dig_mix_299 rfl k) ?_
              refine ST.lift (fun _ _ k => T_lload_n d_Dig_mix_301 rfl k) ?_
              refine ST.lift (fun _ _ k => T_lload_n d_Dig_mix_302 rfl k) ?_
              refine ST.lift (fun _ _ k => T_land d_Dig_mix_303 k) (S_anyl fun z144 => ?_)
              refine ST.lift (fun _ _ k => T_lload_n d_Dig_mix_304 rfl k) ?_
              refine ST.lift (fun _ _ k => T_lload d_Dig_mix_305 rfl k) ?_
              refine ST.lift (fun _ _ k => T_land d_Dig_mix_307 k) (S_anyl fun z145 => ?_)
              refine ST.lift (fun _ _ k => T_lxor d_Dig_mix_308 k) (S_anyl fun z146 => ?_)
              refine ST.lift (fun _ _ k => T_lload_n d_Dig_mix_309 rfl k) ?_
              refine ST.lift (fun _ _ k => T_lload d_Dig_mix_310 rfl k) ?_
              refine ST.lift (fun _ _ k => T_land d_Dig_mix_312 k) (S_anyl fun z147 => ?_)
              refine ST.lift (fun _ _ k => T_lxor d_Dig_mix_313 k) (S_anyl fun z148 => ?_)
              refine ST.lift (fun _ _ k => T_ladd d_Dig_mix_314 k) (S_anyl fun z149 => ?_)
              refine ST.lift (fun _ _ k => T_lstore (L' := [(22, .long z149), (18, .long z143), (20, .long z132), (17, .int (nI k41)), (15, .long z42), (13, .long z43), (11, .long z44), (9, .long z45), (7, .long z46), (5, .long z47), (3, .long z48), (1, .long z49), (0, .ref 63)]) d_Dig_mix_315 (by decide) rfl k) ?_
              refine ST.lift (fun _ _ k => T_lload d_Dig_mix_317 rfl k) ?_
              refine ST.lift (fun _ _ k => T_lstore (L' := [(15, .long z43), (22, .long z149), (18, .long z143), (20, .long z132), (17, .int (nI k41)), (13, .long z43), (11, .long z44), (9, .long z45), (7, .long z46), (5, .long z47), (3, .long z48), (1, .long z49), (0, .ref 63)]) d_Dig_mix_319 (by decide) rfl k) ?_
              refine ST.lift (fun _ _ k => T_lload d_Dig_mix_321 rfl k) ?_
              refine ST.lift (fun _ _ k => T_lstore (L' := [(13, .long z44), (15, .long z43), (22, .long z149), (18, .long z143), (20, .long z132), (17, .int (nI k41)), (11, .long z44), (9, .long z45), (7, .long z46), (5, .long z47), (3, .long z48), (1, .long z49), (0, .ref 63)]) d_Dig_mix_323 (by decide) rfl k) ?_
              refine ST.lift (fun _ _ k => T_lload d_Dig_mix_325 rfl k) ?_
              refine ST.lift (fun _ _ k => T_lstore (L' := [(11, .long z45), (13, .long z44), (15, .long z43), (22, .long z149), (18, .long z143), (20, .long z132), (17, .int (nI k41)), (9, .long z45), (7, .long z46), (5, .long z47), (3, .long z48), (1, .long z49), (0, .ref 63)]) d_Dig_mix_327 (by decide) rfl k) ?_
              refine ST.lift (fun _ _ k => T_lload d_Dig_mix_329 rfl k) ?_
              refine ST.lift (fun _ _ k => T_lload d_Dig_mix_331 rfl k) ?_
              refine ST.lift (fun _ _ k => T_ladd d_Dig_mix_333 k) (S_anyl fun z150 => ?_)
              refine ST.lift (fun _ _ k => T_lstore (L' := [(9, .long z150), (11, .long z45), (13, .long z44), (15, .long z43), (22, .long z149), (18, .long z143), (20, .long z132), (17, .int (nI k41)), (7, .long z46), (5, .long z47), (3, .long z48), (1, .long z49), (0, .ref 63)]) d_Dig_mix_334 (by decide) rfl k) ?_
              refine ST.lift (fun _ _ k => T_lload d_Dig_mix_336 rfl k) ?_
              refine ST.lift (fun _ _ k => T_lstore (L' := [(7, .long z47), (9, .long z150), (11, .long z45), (13, .long z44), (15, .long z43), (22, .long z149), (18, .long z143), (20, .long z132), (17, .int (nI k41)), (5, .long z47), (3, .long z48), (1, .long z49), (0, .ref 63)]) d_Dig_mix_338 (by decide) rfl k) ?_
              refine ST.lift (fun _ _ k => T_lload_n d_Dig_mix_340 rfl k) ?_
              refine ST.lift (fun _ _ k => T_lstore (L' := [(5, .long z48), (7, .long z47), (9, .long z150), (11, .long z45), (13, .long z44), (15, .long z43), (22, .long z149), (18, .long z143), (20, .long z132), (17, .int (nI k41)), (3, .long z48), (1, .long z49), (0, .ref 63)]) d_Dig_mix_341 (by decide) rfl k) ?_
              refine ST.lift (fun _ _ k => T_lload_n d_Dig_mix_343 rfl k) ?_
              refine ST.lift (fun _ _ k => T_lstore_n (L' := [(3, .long z49), (5, .long z48), (7, .long z47), (9, .long z150), (11, .long z45), (13, .long z44), (15, .long z43), (22, .long z149), (18, .long z143), (20, .long z132), (17, .int (nI k41)), (1, .long z49), (0, .ref 63)]) d_Dig_mix_344 (by decide) rfl k) ?_
              refine ST.lift (fun _ _ k => T_lload d_Dig_mix_345 rfl k) ?_
              refine ST.lift (fun _ _ k => T_lload d_Dig_mix_347 rfl k) ?_
              refine ST.lift (fun _ _ k => T_ladd d_Dig_mix_349 k) (S_anyl fun z151 => ?_)
              refine ST.lift (fun _ _ k => T_lstore_n (L' := [(1, .long z151), (3, .long z49), (5, .long z48), (7, .long z47), (9, .long z150), (11, .long z45), (13, .long z44), (15, .long z43), (22, .long z149), (18, .long z143), (20, .long z132), (17, .int (nI k41)), (0, .ref 63)]) d_Dig_mix_350 (by decide) rfl k) ?_
              refine S_iincN (a := k41) (b := 1) (L' := [(17, .int (nI (k41 + 1))), (1, .long z151), (3, .long z49), (5, .long z48), (7, .long z47), (9, .long z150), (11, .long z45), (13, .long z44), (15, .long z43), (22, .long z149), (18, .long z143), (20, .long z132), (0, .ref 63)]) d_Dig_mix_351 (by decide) rfl rfl rfl ?_
              refine ST.lift (fun _ _ k => T_goto (tgt := 186) d_Dig_mix_354 rfl k) ?_
              refine S_pick [0, 8, 7, 6, 5, 4, 3, 2, 1, 12] rfl ?_
              exact ih51 (80 - (k41 + 1)) (by omega) (k41 + 1) z43 z44 z45 z150 z47 z48 z49 z151 rfl (by omega)
        exact lp52 _ 0 z40 z39 z38 z37 z36 z35 z34 z33 rfl (by omega)
      · refine ST.lift (fun _ _ k => T_aload_n (v := .ref 63) d_Dig_mix_9 rfl (Or.inr ⟨_, rfl⟩) k) ?_
        refine S_getfield d_Dig_mix_10 fg_Dig_13 (w63 _) rfl ?_
        refine ST.lift (fun _ _ k => T_iload_n d_Dig_mix_13 rfl k) ?_
        refine ST.lift (fun _ _ k => T_iconst (v := nI 2) d_Dig_mix_14 (by decide) k) ?_
        refine S_isubN d_Dig_mix_15 (by omega) ?_
        refine S_laload d_Dig_mix_16 a65 (vp_in_nI (by omega) (by omega)) (fun z152 => ?_)
        refine ST.lift (fun _ _ k => T_lstore_n (L' := [(2, .long z152), (1, .int (nI k1)), (0, .ref 63)]) d_Dig_mix_17 (by decide) rfl k) ?_
        refine ST.lift (fun _ _ k => T_aload_n (v := .ref 63) d_Dig_mix_18 rfl (Or.inr ⟨_, rfl⟩) k) ?_
        refine S_getfield d_Dig_mix_19 fg_Dig_13 (w63 _) rfl ?_
        refine ST.lift (fun _ _ k => T_iload_n d_Dig_mix_22 rfl k) ?_
        refine ST.lift (fun _ _ k => T_bipush (v := nI 15) d_Dig_mix_23 (by decide) k) ?_
        refine S_isubN d_Dig_mix_25 (by omega) ?_
        refine S_laload d_Dig_mix_26 a65 (vp_in_nI (by omega) (by omega)) (fun z153 => ?_)
        refine ST.lift (fun _ _ k => T_lstore (L' := [(4, .long z153), (2, .long z152), (1, .int (nI k1)), (0, .ref 63)]) d_Dig_mix_27 (by decide) rfl k) ?_
        refine ST.lift (fun _ _ k => T_lload_n d_Dig_mix_29 rfl k) ?_
        refine ST.lift (fun _ _ k => T_bipush (v := nI 19) d_Dig_mix_30 (by decide) k) ?_
        refine ST.lift (fun _ _ k => T_lushr d_Dig_mix_32 k) (S_anyl fun z154 => ?_)
        refine ST.lift (fun _ _ k => T_lload_n d_Dig_mix_33 rfl k) ?_
        refine ST.lift (fun _ _ k => T_bipush (v := nI 45) d_Dig_mix_34 (by decide) k) ?_
        refine ST.lift (fun _ _ k => T_lshl d_Dig_mix_36 k) (S_anyl fun z155 => ?_)
        refine ST.lift (fun _ _ k => T_lor d_Dig_mix_37 k) (S_anyl fun z156 => ?_)
        refine ST.lift (fun _ _ k => T_lload_n d_Dig_mix_38 rfl k) ?_
        refine ST.lift (fun _ _ k => T_bipush (v := nI 61) d_Dig_mix_39 (by decide) k) ?_
        refine ST.lift (fun _ _ k => T_lushr d_Dig_mix_41 k) (S_anyl fun z157 => ?_)
        refine ST.lift (fun _ _ k => T_lload_n d_Dig_mix_42 rfl k) ?_
        refine ST.lift (fun _ _ k => T_iconst (v := nI 3) d_Dig_mix_43 (by decide) k) ?_
        refine ST.lift (fun _ _ k => T_lshl d_Dig_mix_44 k) (S_anyl fun z158 => ?_)
        refine ST.lift (fun _ _ k => T_lor d_Dig_mix_45 k) (S_anyl fun z159 => ?_)
        refine ST.lift (fun _ _ k => T_lxor d_Dig_mix_46 k) (S_anyl fun z160 => ?_)
        refine ST.lift (fun _ _ k => T_lload_n d_Dig_mix_47 rfl k) ?_
        refine ST.lift (fun _ _ k => T_bipush (v := nI 6) d_Dig_mix_48 (by decide) k) ?_
        refine ST.lift (fun _ _ k => T_lushr d_Dig_mix_50 k) (S_anyl fun z161 => ?_)
        refine ST.lift (fun _ _ k => T_lxor d_Dig_mix_51 k) (S_anyl fun z162 => ?_)
        refine ST.lift (fun _ _ k => T_lstore_n (L' := [(2, .long z162), (4, .long z153), (1, .int (nI k1)), (0, .ref 63)]) d_Dig_mix_52 (by decide) rfl k) ?_
        refine ST.lift (fun _ _ k => T_lload d_Dig_mix_53 rfl k) ?_
        refine ST.lift (fun _ _ k => T_iconst (v := nI 1) d_Dig_mix_55 (by decide) k) ?_
        refine ST.lift (fun _ _ k => T_lushr d_Dig_mix_56 k) (S_anyl fun z163 => ?_)
        refine ST.lift (fun _ _ k => T_lload d_Dig_mix_57 rfl k) ?_
        refine ST.lift (fun _ _ k => T_bipush (v := nI 63) d_Dig_mix_59 (by decide) k) ?_
        refine ST.lift (fun _ _ k => T_lshl d_Dig_mix_61 k) (S_anyl fun z164 => ?_)
        refine ST.lift (fun _ _ k => T_lor d_Dig_mix_62 k) (S_anyl fun z165 => ?_)
        refine ST.lift (fun _ _ k => T_lload d_Dig_mix_63 rfl k) ?_
        refine ST.lift (fun _ _ k => T_bipush (v := nI 8) d_Dig_mix_65 (by decide) k) ?_
        refine ST.lift (fun _ _ k => T_lushr d_Dig_mix_67 k) (S_anyl fun z166 => ?_)
        refine ST.lift (fun _ _ k => T_lload d_Dig_mix_68 rfl k) ?_
        refine ST.lift (fun _ _ k => T_bipush (v := nI 56) d_Dig_mix_70 (by decide) k) ?_
        refine ST.lift (fun _ _ k => T_lshl d_Dig_mix_72 k) (S_anyl fun z167 => ?_)
        refine ST.lift (fun _ _ k => T_lor d_Dig_mix_73 k) (S_anyl fun z168 => ?_)
        refine ST.lift (fun _ _ k => T_lxor d_Dig_mix_74 k) (S_anyl fun z169 => ?_)
        refine ST.lift (fun _ _ k => T_lload d_Dig_mix_75 rfl k) ?_
        refine ST.lift (fun _ _ k => T_bipush (v := nI 7) d_Dig_mix_77 (by decide) k) ?_
        refine ST.lift (fun _ _ k => T_lushr d_Dig_mix_79 k) (S_anyl fun z170 => ?_)
        refine ST.lift (fun _ _ k => T_lxor d_Dig_mix_80 k) (S_anyl fun z171 => ?_)
        refine ST.lift (fun _ _ k => T_lstore (L' := [(4, .long z171), (2, .long z162), (1, .int (nI k1)), (0, .ref 63)]) d_Dig_mix_81 (by decide) rfl k) ?_
        refine ST.lift (fun _ _ k => T_aload_n (v := .ref 63) d_Dig_mix_83 rfl (Or.inr ⟨_, rfl⟩) k) ?_
        refine S_getfield d_Dig_mix_84 fg_Dig_13 (w63 _) rfl ?_
        refine ST.lift (fun _ _ k => T_iload_n d_Dig_mix_87 rfl k) ?_
        refine ST.lift (fun _ _ k => T_lload_n d_Dig_mix_88 rfl k) ?_
        refine ST.lift (fun _ _ k => T_aload_n (v := .ref 63) d_Dig_mix_89 rfl (Or.inr ⟨_, rfl⟩) k) ?_
        refine S_getfield d_Dig_mix_90 fg_Dig_13 (w63 _) rfl ?_
        refine ST.lift (fun _ _ k => T_iload_n d_Dig_mix_93 rfl k) ?_
        refine ST.lift (fun _ _ k => T_bipush (v := nI 7) d_Dig_mix_94 (by decide) k) ?_
        refine S_isubN d_Dig_mix_96 (by omega) ?_
        refine S_laload d_Dig_mix_97 a65 (vp_in_nI (by omega) (by omega)) (fun z172 => ?_)
        refine ST.lift (fun _ _ k => T_ladd d_Dig_mix_98 k) (S_anyl fun z173 => ?_)
        refine ST.lift (fun _ _ k => T_lload d_Dig_mix_99 rfl k) ?_
        refine ST.lift (fun _ _ k => T_ladd d_Dig_mix_101 k) (S_anyl fun z174 => ?_)
        refine ST.lift (fun _ _ k => T_aload_n (v := .ref 63) d_Dig_mix_102 rfl (Or.inr ⟨_, rfl⟩) k) ?_
        refine S_getfield d_Dig_mix_103 fg_Dig_13 (w63 _) rfl ?_
        refine ST.lift (fun _ _ k => T_iload_n d_Dig_mix_106 rfl k) ?_
        refine ST.lift (fun _ _ k => T_bipush (v := nI 16) d_Dig_mix_107 (by decide) k) ?_
        refine S_isubN d_Dig_mix_109 (by omega) ?_
        refine S_laload d_Dig_mix_110 a65 (vp_in_nI (by omega) (by omega)) (fun z175 => ?_)
        refine ST.lift (fun _ _ k => T_ladd d_Dig_mix_111 k) (S_anyl fun z176 => ?_)
        refine S_lastore d_Dig_mix_112 (by decide) a65 (vp_in_nI (by omega) (by omega)) ?_
        refine S_iincN (a := k1) (b := 1) (L' := [(1, .int (nI (k1 + 1))), (4, .long z171), (2, .long z162), (0, .ref 63)]) d_Dig_mix_113 (by decide) rfl rfl rfl ?_
        refine ST.lift (fun _ _ k => T_goto (tgt := 3) d_Dig_mix_116 rfl k) ?_
        refine S_pick [0, 3] rfl ?_
        exact ih3 (80 - (k1 + 1)) (by omega) (k1 + 1)  rfl (by omega)
  exact lp4 _ 16  rfl (by omega)
set_option maxRecDepth 100000 in
set_option maxHeartbeats 4000000 in
theorem c_Dig_run_63 (G : GX) (v : Nat → Int32) (a ad ac aj : Nat) (y_a : isBy a ad ac aj) (to m : Nat) (w_to : K0 ≤ to) (a_to : aB to m) (l_to : m ≤ 2000) (h64 : 64 ≤ m) (hv : okv v) : CS G mi_Dig_run [.ref 63, .ref a, .ref to] v (fun r v' => r = none ∧ okv v' ∧ mdf [] v v') := by
  refine CS.of (by decide) (Nat.le_of_ble_eq_true rfl) ?_
  generalize hQe : (fun (r : Option Value) (v' : Nat → Int32) => r = none ∧ okv v' ∧ mdf [] v v') = Q
  have hQ : ∀ u, okv u → mdf [] v u → Q none u := by rw [← hQe]; exact fun u h1 h2 => ⟨rfl, h1, h2⟩
  clear hQe
  have hm : mdf [] v v := mdf.rf
  have l_a := y_a.2.2.2.2.2
  show ST G mi_Dig_run 0 [(0, .ref 63), (1, .ref a), (2, .ref to)] [] v 0 0 Q
  refine ST.lift (fun _ _ k => T_getstatic (q := ("PasswordGate$Digest", "FIRST", "[J", .ref 0)) d_Dig_run_0 (List.mem_of_getElem? (i := 0) rfl) gs_Dig_16 (show 0 < K0 by decide) k) ?_
  refine ST.lift (fun _ _ k => T_iconst (v := nI 0) d_Dig_run_3 (by decide) k) ?_
  refine ST.lift (fun _ _ k => T_aload_n (v := .ref 63) d_Dig_run_4 rfl (Or.inr ⟨_, rfl⟩) k) ?_
  refine S_getfield d_Dig_run_5 fg_Dig_7 (w63 _) rfl ?_
  refine ST.lift (fun _ _ k => T_iconst (v := nI 0) d_Dig_run_8 (by decide) k) ?_
  refine ST.lift (fun _ _ k => T_bipush (v := nI 8) d_Dig_run_9 (by decide) k) ?_
  refine S_copyL d_Dig_run_11 lm_Dig_19 (by decide) a0 a64 (by omega) (by omega) (by omega) (by omega) (by omega) (by decide) (Nat.le_of_ble_eq_true rfl) ?_
  refine ST.lift (fun _ _ k => T_aload_n (v := .ref a) d_Dig_run_14 rfl (Or.inr ⟨_, rfl⟩) k) ?_
  obtain ⟨k1, hk1, ek1⟩ := hv.get (j := aj) (c := ac) y_a.2.2.2.2.1
  refine S_getfield d_Dig_run_15 fg_Dig_25 (y_a.1 _) rfl ?_
  refine S_topi (y := nI k1) (ek1) ?_
  refine ST.lift (fun _ _ k => T_bipush (v := nI 16) d_Dig_run_18 (by decide) k) ?_
  refine S_iaddN d_Dig_run_20 ?_
  refine ST.lift (fun _ _ k => T_sipush (v := nI 128) d_Dig_run_21 (by decide) k) ?_
  refine S_idivN d_Dig_run_24 (by omega) (by omega) (by omega) ?_
  refine ST.lift (fun _ _ k => T_iconst (v := nI 1) d_Dig_run_25 (by decide) k) ?_
  refine S_iaddN d_Dig_run_26 ?_
  refine ST.lift (fun _ _ k => T_istore_n (L' := [(3, .int (nI (((k1 + 16) / 128) + 1))), (0, .ref 63), (1, .ref a), (2, .ref to)]) d_Dig_run_27 (by decide) rfl k) ?_
  refine ST.lift (fun _ _ k => T_iconst (v := nI 0) d_Dig_run_28 (by decide) k) ?_
  refine ST.lift (fun _ _ k => T_istore (L' := [(4, .int (nI 0)), (3, .int (nI (((k1 + 16) / 128) + 1))), (0, .ref 63), (1, .ref a), (2, .ref to)]) d_Dig_run_29 (by decide) rfl k) ?_
  have lp6 : ∀ (n4 k2 : Nat) (u3 : Nat → Int32) (hv_u3 : okv u3) (hm_u3 : mdf [] v u3), (((k1 + 16) / 128) + 1) - k2 = n4 → 0 ≤ k2 ∧ k2 ≤ 0 + (((k1 + 16) / 128) + 1) → ST G mi_Dig_run 31 [(4, .int (nI k2)), (3, .int (nI (((k1 + 16) / 128) + 1))), (0, .ref 63), (1, .ref a), (2, .ref to)] [] u3 0 0 Q := by
    intro n4
    induction n4 using Nat.strongRecOn with
    | _ n4 ih5 =>
      intro k2 u3 hv_u3 hm_u3 h7 h8
      refine ST.lift (fun _ _ k => T_iload d_Dig_run_31 rfl k) ?_
      refine ST.lift (fun _ _ k => T_iload_n d_Dig_run_33 rfl k) ?_
      refine S_icmp_geN d_Dig_run_34 rfl (by omega) (by omega) (fun c9 => ?_) (fun c9 => ?_)
      · refine ST.lift (fun _ _ k => T_iconst (v := nI 0) d_Dig_run_82 (by decide) k) ?_
        refine ST.lift (fun _ _ k => T_istore (L' := [(4, .int (nI 0)), (3, .int (nI (((k1 + 16) / 128) + 1))), (0, .ref 63), (1, .ref a), (2, .ref to)]) d_Dig_run_83 (by decide) rfl k) ?_
        have lp25 : ∀ (n23 k22 : Nat), 64 - k22 = n23 → 0 ≤ k22 ∧ k22 ≤ 0 + 64 → ST G mi_Dig_run 85 [(4, .int (nI k22)), (3, .int (nI (((k1 + 16) / 128) + 1))), (0, .ref 63), (1, .ref a), (2, .ref to)] [] u3 0 0 Q := by
          intro n23
          induction n23 using Nat.strongRecOn with
          | _ n23 ih24 =>
            intro k22 h26 h27
            refine ST.lift (fun _ _ k => T_iload d_Dig_run_85 rfl k) ?_
            refine ST.lift (fun _ _ k => T_bipush (v := nI 64) d_Dig_run_87 (by decide) k) ?_
            refine S_icmp_geN d_Dig_run_89 rfl (by omega) (by omega) (fun c28 => ?_) (fun c28 => ?_)
            · exact S_vret d_Dig_run_125 rfl (by decide) (by decide) (hQ _ hv_u3 hm_u3)
            · refine ST.lift (fun _ _ k => T_aload_n (v := .ref to) d_Dig_run_92 rfl (Or.inr ⟨_, rfl⟩) k) ?_
              refine ST.lift (fun _ _ k => T_iload d_Dig_run_93 rfl k) ?_
              refine ST.lift (fun _ _ k => T_aload_n (v := .ref 63) d_Dig_run_95 rfl (Or.inr ⟨_, rfl⟩) k) ?_
              refine S_getfield d_Dig_run_96 fg_Dig_7 (w63 _) rfl ?_
              refine ST.lift (fun _ _ k => T_iload d_Dig_run_99 rfl k) ?_
              refine ST.lift (fun _ _ k => T_iconst (v := nI 3) d_Dig_run_101 (by decide) k) ?_
              refine S_ishrN d_Dig_run_102 (by omega) (by omega) ?_
              refine S_laload d_Dig_run_103 a64 (vp_in_nI (by omega) (by omega)) (fun z29 => ?_)
              refine ST.lift (fun _ _ k => T_bipush (v := nI 56) d_Dig_run_104 (by decide) k) ?_
              refine ST.lift (fun _ _ k => T_bipush (v := nI 8) d_Dig_run_106 (by decide) k) ?_
              refine ST.lift (fun _ _ k => T_iload d_Dig_run_108 rfl k) ?_
              refine ST.lift (fun _ _ k => T_bipush (v := nI 7) d_Dig_run_110 (by decide) k) ?_
              refine S_iandN 3 d_Dig_run_112 (by omega) (by decide) (by decide) ?_
              refine S_imulN d_Dig_run_113 ?_
              refine S_isubN d_Dig_run_114 (by omega) ?_
              refine ST.lift (fun _ _ k => T_lushr d_Dig_run_115 k) (S_anyl fun z30 => ?_)
              refine ST.lift (fun _ _ k => T_l2i d_Dig_run_116 k) (S_anyi fun z31 => ?_)
              refine ST.lift (fun _ _ k => T_i2b d_Dig_run_117 k) (S_anyi fun z32 => ?_)
              refine S_bastore d_Dig_run_118 w_to a_to (vp_in_nI (by omega) (by omega)) ?_
              refine S_iincN (a := k22) (b := 1) (L' := [(4, .int (nI (k22 + 1))), (3, .int (nI (((k1 + 16) / 128) + 1))), (0, .ref 63), (1, .ref a), (2, .ref to)]) d_Dig_run_119 (by decide) rfl rfl rfl ?_
              refine ST.lift (fun _ _ k => T_goto (tgt := 85) d_Dig_run_122 rfl k) ?_
              exact ih24 (64 - (k22 + 1)) (by omega) (k22 + 1)  rfl (by omega)
        exact lp25 _ 0  rfl (by omega)
      · refine ST.lift (fun _ _ k => T_aload_n (v := .ref 63) d_Dig_run_37 rfl (Or.inr ⟨_, rfl⟩) k) ?_
        refine ST.lift (fun _ _ k => T_aload_n (v := .ref a) d_Dig_run_38 rfl (Or.inr ⟨_, rfl⟩) k) ?_
        refine ST.lift (fun _ _ k => T_iload d_Dig_run_39 rfl k) ?_
        refine ST.lift (fun _ _ k => T_sipush (v := nI 128) d_Dig_run_41 (by decide) k) ?_
        refine S_imulN d_Dig_run_44 ?_
        refine S_virtual (as := [.ref a, .int (nI (k2 * 128))]) (rest := []) (b := 63) d_Dig_run_45 rfl (jw_Dig_load.jo (by decide)) lm_Dig_31 ji_Dig_load js_Dig_load (w63 _) rfl rfl rfl (Nat.le_of_ble_eq_true rfl) (by decide) (by decide) (c_Dig_load_63 G u3 a ad ac aj y_a (k2 * 128) (by omega) hv_u3) (fun r u33 hq => ?_)
        obtain ⟨hr, hv34, hm35⟩ := hq
        rw [hr]
        clear hr r
        have hm36 := hm_u3.go hm35 (by intro i hi; simp only [List.mem_cons, List.not_mem_nil, or_false] at hi ⊢ <;> omega)
        show ST G mi_Dig_run 48 [(4, .int (nI k2)), (3, .int (nI (((k1 + 16) / 128) + 1))), (0, .ref 63), (1, .ref a), (2, .ref to)] [] u33 0 0 _
        refine ST.lift (fun _ _ k => T_iload d_Dig_run_48 rfl k) ?_
        refine ST.lift (fun _ _ k => T_iload_n d_Dig_run_50 rfl k) ?_
        refine ST.lift (fun _ _ k => T_iconst (v := nI 1) d_Dig_run_51 (by decide) k) ?_
        refine S_isubN d_Dig_run_52 (by omega) ?_
        have J72_41 : ST G mi_Dig_run 72 [(4, .int (nI k2)), (3, .int (nI (((k1 + 16) / 128) + 1))), (0, .ref 63), (1, .ref a), (2, .ref to)] [] u33 0 0 Q := by
          refine ST.lift (fun _ _ k => T_aload_n (v := .ref 63) d_Dig_run_72 rfl (Or.inr ⟨_, rfl⟩) k) ?_
          refine S_virtual (as := []) (rest := []) (b := 63) d_Dig_run_73 rfl (jw_Dig_mix.jo (by decide)) lm_Dig_37 ji_Dig_mix js_Dig_mix (w63 _) rfl rfl rfl (Nat.le_of_ble_eq_true rfl) (by decide) (by decide) (c_Dig_mix_63 G u33) (fun r v' hq => ?_)
          rw [hq.1, hq.2]
          clear hq r v'
          show ST G mi_Dig_run 76 [(4, .int (nI k2)), (3, .int (nI (((k1 + 16) / 128) + 1))), (0, .ref 63), (1, .ref a), (2, .ref to)] [] u33 0 0 _
          refine S_iincN (a := k2) (b := 1) (L' := [(4, .int (nI (k2 + 1))), (3, .int (nI (((k1 + 16) / 128) + 1))), (0, .ref 63), (1, .ref a), (2, .ref to)]) d_Dig_run_76 (by decide) rfl rfl rfl ?_
          refine ST.lift (fun _ _ k => T_goto (tgt := 31) d_Dig_run_79 rfl k) ?_
          exact ih5 ((((k1 + 16) / 128) + 1) - (k2 + 1)) (by omega) (k2 + 1)  u33 hv34 hm36 rfl (by omega)
        refine S_icmp_neN d_Dig_run_53 rfl (by omega) (by omega) (fun c37 => ?_) (fun c37 => ?_)
        · exact J72_41 
        · refine ST.lift (fun _ _ k => T_aload_n (v := .ref 63) d_Dig_run_56 rfl (Or.inr ⟨_, rfl⟩) k) ?_
          refine S_getfield d_Dig_run_57 fg_Dig_13 (w63 _) rfl ?_
          refine ST.lift (fun _ _ k => T_bipush (v := nI 15) d_Dig_run_60 (by decide) k) ?_
          refine ST.lift (fun _ _ k => T_ldc2 d_Dig_run_62 kJ_Dig_35 k) ?_
          refine ST.lift (fun _ _ k => T_aload_n (v := .ref a) d_Dig_run_65 rfl (Or.inr ⟨_, rfl⟩) k) ?_
          obtain ⟨k42, hk42, ek42⟩ := hv34.get (j := aj) (c := ac) y_a.2.2.2.2.1
          refine S_getfield d_Dig_run_66 fg_Dig_25 (y_a.1 _) rfl ?_
          refine S_topi (y := nI k42) (ek42) ?_
          refine ST.lift (fun _ _ k => T_i2l d_Dig_run_69 k) (S_anyl fun z43 => ?_)
          refine ST.lift (fun _ _ k => T_lmul d_Dig_run_70 k) (S_anyl fun z44 => ?_)
          refine S_lastore d_Dig_run_71 (by decide) a65 (vp_in_nI (by omega) (by omega)) ?_
          exact J72_41 
  exact lp6 _ 0  v hv hm rfl (by omega)
set_option maxRecDepth 100000 in
set_option maxHeartbeats 4000000 in
theorem c_Dig_load_67 (G : GX) (v : Nat → Int32) (a ad ac aj : Nat) (y_a : isBy a ad ac aj) (start : Nat) (b_start : start ≤ 2000) (hv : okv v) : CS G mi_Dig_load [.ref 67, .ref a, .int (nI start)] v (fun r v' => r = none ∧ okv v' ∧ mdf [] v v') := by
  refine CS.of (by decide) (Nat.le_of_ble_eq_true rfl) ?_
  generalize hQe : (fun (r : Option Value) (v' : Nat → Int32) => r = none ∧ okv v' ∧ mdf [] v v') = Q
  have hQ : ∀ u, okv u → mdf [] v u → Q none u := by rw [← hQe]; exact fun u h1 h2 => ⟨rfl, h1, h2⟩
  clear hQe
  have hm : mdf [] v v := mdf.rf
  have l_a := y_a.2.2.2.2.2
  show ST G mi_Dig_load 0 [(0, .ref 67), (1, .ref a), (2, .int (nI start))] [] v 0 0 Q
  refine ST.lift (fun _ _ k => T_iconst (v := nI 0) d_Dig_load_0 (by decide) k) ?_
  refine ST.lift (fun _ _ k => T_istore_n (L' := [(3, .int (nI 0)), (0, .ref 67), (1, .ref a), (2, .int (nI start))]) d_Dig_load_1 (by decide) rfl k) ?_
  have lp4 : ∀ (n2 k1 : Nat), 16 - k1 = n2 → 0 ≤ k1 ∧ k1 ≤ 0 + 16 → ST G mi_Dig_load 2 [(3, .int (nI k1)), (0, .ref 67), (1, .ref a), (2, .int (nI start))] [] v 0 0 Q := by
    intro n2
    induction n2 using Nat.strongRecOn with
    | _ n2 ih3 =>
      intro k1 h5 h6
      refine ST.lift (fun _ _ k => T_iload_n d_Dig_load_2 rfl k) ?_
      refine ST.lift (fun _ _ k => T_bipush (v := nI 16) d_Dig_load_3 (by decide) k) ?_
      refine S_icmp_geN d_Dig_load_5 rfl (by omega) (by omega) (fun c7 => ?_) (fun c7 => ?_)
      · exact S_vret d_Dig_load_105 rfl (by decide) (by decide) (hQ _ hv hm)
      · refine ST.lift (fun _ _ k => T_lconst (v := 0) d_Dig_load_8 (by decide) k) ?_
        refine ST.lift (fun _ _ k => T_lstore (L' := [(4, .long 0), (3, .int (nI k1)), (0, .ref 67), (1, .ref a), (2, .int (nI start))]) d_Dig_load_9 (by decide) rfl k) ?_
        refine ST.lift (fun _ _ k => T_iload_n d_Dig_load_11 rfl k) ?_
        refine ST.lift (fun _ _ k => T_bipush (v := nI 8) d_Dig_load_12 (by decide) k) ?_
        refine ST.lift (fun _ _ k => T_iload_n d_Dig_load_14 rfl k) ?_
        refine S_imulN d_Dig_load_15 ?_
        refine S_iaddN d_Dig_load_16 ?_
        refine ST.lift (fun _ _ k => T_istore (L' := [(6, .int (nI (start + (8 * k1)))), (4, .long 0), (3, .int (nI k1)), (0, .ref 67), (1, .ref a), (2, .int (nI start))]) d_Dig_load_17 (by decide) rfl k) ?_
        have lp12 : ∀ (n10 k8 : Nat) (z9 : Int64), (start + 8 * k1 + 8) - k8 = n10 → (start + (8 * k1)) ≤ k8 ∧ k8 ≤ (start + (8 * k1)) + (start + 8 * k1 + 8) → ST G mi_Dig_load 19 [(6, .int (nI k8)), (4, .long z9), (3, .int (nI k1)), (0, .ref 67), (1, .ref a), (2, .int (nI start))] [] v 0 0 Q := by
          intro n10
          induction n10 using Nat.strongRecOn with
          | _ n10 ih11 =>
            intro k8 z9 h13 h14
            refine ST.lift (fun _ _ k => T_iload d_Dig_load_19 rfl k) ?_
            refine ST.lift (fun _ _ k => T_iload_n d_Dig_load_21 rfl k) ?_
            refine ST.lift (fun _ _ k => T_bipush (v := nI 8) d_Dig_load_22 (by decide) k) ?_
            refine ST.lift (fun _ _ k => T_iload_n d_Dig_load_24 rfl k) ?_
            refine S_imulN d_Dig_load_25 ?_
            refine S_iaddN d_Dig_load_26 ?_
            refine ST.lift (fun _ _ k => T_bipush (v := nI 8) d_Dig_load_27 (by decide) k) ?_
            refine S_iaddN d_Dig_load_29 ?_
            refine S_icmp_geN d_Dig_load_30 rfl (by omega) (by omega) (fun c15 => ?_) (fun c15 => ?_)
            · refine ST.lift (fun _ _ k => T_aload_n (v := .ref 67) d_Dig_load_91 rfl (Or.inr ⟨_, rfl⟩) k) ?_
              refine S_getfield d_Dig_load_92 fg_Dig_13 (w67 _) rfl ?_
              refine ST.lift (fun _ _ k => T_iload_n d_Dig_load_95 rfl k) ?_
              refine ST.lift (fun _ _ k => T_lload d_Dig_load_96 rfl k) ?_
              refine S_lastore d_Dig_load_98 (by decide) a69 (vp_in_nI (by omega) (by omega)) ?_
              refine S_iincN (a := k1) (b := 1) (L' := [(3, .int (nI (k1 + 1))), (6, .int (nI k8)), (4, .long z9), (0, .ref 67), (1, .ref a), (2, .int (nI start))]) d_Dig_load_99 (by decide) rfl rfl rfl ?_
              refine ST.lift (fun _ _ k => T_goto (tgt := 2) d_Dig_load_102 rfl k) ?_
              refine S_pick [0, 3, 4, 5] rfl ?_
              exact ih3 (16 - (k1 + 1)) (by omega) (k1 + 1)  rfl (by omega)
            · refine ST.lift (fun _ _ k => T_iload d_Dig_load_33 rfl k) ?_
              refine ST.lift (fun _ _ k => T_aload_n (v := .ref a) d_Dig_load_35 rfl (Or.inr ⟨_, rfl⟩) k) ?_
              obtain ⟨k29, hk29, ek29⟩ := hv.get (j := aj) (c := ac) y_a.2.2.2.2.1
              refine S_getfield d_Dig_load_36 fg_Dig_25 (y_a.1 _) rfl ?_
              refine S_topi (y := nI k29) (ek29) ?_
              have J72_35 : ∀ (z34 : Int32), ST G mi_Dig_load 72 [(6, .int (nI k8)), (4, .long z9), (3, .int (nI k1)), (0, .ref 67), (1, .ref a), (2, .int (nI start))] [.int z34] v 0 0 Q := by
                intro z34
                refine ST.lift (fun _ _ k => T_istore (L' := [(7, .int z34), (6, .int (nI k8)), (4, .long z9), (3, .int (nI k1)), (0, .ref 67), (1, .ref a), (2, .int (nI start))]) d_Dig_load_72 (by decide) rfl k) ?_
                refine ST.lift (fun _ _ k => T_lload d_Dig_load_74 rfl k) ?_
                refine ST.lift (fun _ _ k => T_bipush (v := nI 8) d_Dig_load_76 (by decide) k) ?_
                refine ST.lift (fun _ _ k => T_lshl d_Dig_load_78 k) (S_anyl fun z36 => ?_)
                refine ST.lift (fun _ _ k => T_iload d_Dig_load_79 rfl k) ?_
                refine ST.lift (fun _ _ k => T_i2l d_Dig_load_81 k) (S_anyl fun z37 => ?_)
                refine ST.lift (fun _ _ k => T_lor d_Dig_load_82 k) (S_anyl fun z38 => ?_)
                refine ST.lift (fun _ _ k => T_lstore (L' := [(4, .long z38), (7, .int z34), (6, .int (nI k8)), (3, .int (nI k1)), (0, .ref 67), (1, .ref a), (2, .int (nI start))]) d_Dig_load_83 (by decide) rfl k) ?_
                refine S_iincN (a := k8) (b := 1) (L' := [(6, .int (nI (k8 + 1))), (4, .long z38), (7, .int z34), (3, .int (nI k1)), (0, .ref 67), (1, .ref a), (2, .int (nI start))]) d_Dig_load_85 (by decide) rfl rfl rfl ?_
                refine ST.lift (fun _ _ k => T_goto (tgt := 19) d_Dig_load_88 rfl k) ?_
                refine S_pick [0, 1, 3, 4, 5, 6] rfl ?_
                exact ih11 ((start + 8 * k1 + 8) - (k8 + 1)) (by omega) (k8 + 1) z38 rfl (by omega)
              refine S_icmp_geN d_Dig_load_39 rfl (by omega) (by omega) (fun c30 => ?_) (fun c30 => ?_)
              · refine ST.lift (fun _ _ k => T_iload d_Dig_load_56 rfl k) ?_
                refine ST.lift (fun _ _ k => T_aload_n (v := .ref a) d_Dig_load_58 rfl (Or.inr ⟨_, rfl⟩) k) ?_
                refine S_getfield d_Dig_load_59 fg_Dig_25 (y_a.1 _) rfl ?_
                refine S_topi (y := nI k29) (ek29) ?_
                refine S_icmp_neN d_Dig_load_62 rfl (by omega) (by omega) (fun c39 => ?_) (fun c39 => ?_)
                · refine ST.lift (fun _ _ k => T_iconst (v := nI 0) d_Dig_load_71 (by decide) k) ?_
                  exact J72_35 (nI 0)
                · refine ST.lift (fun _ _ k => T_sipush (v := nI 128) d_Dig_load_65 (by decide) k) ?_
                  refine ST.lift (fun _ _ k => T_goto (tgt := 72) d_Dig_load_68 rfl k) ?_
                  exact J72_35 (nI 128)
              · refine ST.lift (fun _ _ k => T_aload_n (v := .ref a) d_Dig_load_42 rfl (Or.inr ⟨_, rfl⟩) k) ?_
                refine S_getfield d_Dig_load_43 fg_Dig_40 (y_a.1 _) rfl ?_
                refine ST.lift (fun _ _ k => T_iload d_Dig_load_46 rfl k) ?_
                refine S_baload d_Dig_load_48 y_a.2.1 (vp_in_nI (by omega) (by omega)) (fun z40 hz40 => ?_)
                refine ST.lift (fun _ _ k => T_sipush (v := nI 255) d_Dig_load_49 (by decide) k) ?_
                refine S_iandM 8 d_Dig_load_52 (by decide) (by decide) (fun j41 hj41 => ?_)
                simp only [Nat.reducePow] at hj41
                refine ST.lift (fun _ _ k => T_goto (tgt := 72) d_Dig_load_53 rfl k) ?_
                exact J72_35 (nI j41)
        exact lp12 _ (start + (8 * k1)) 0 rfl (by omega)
  exact lp4 _ 0  rfl (by omega)
set_option maxRecDepth 100000 in
set_option maxHeartbeats 4000000 in
theorem c_Dig_mix_67 (G : GX) (v : Nat → Int32) : CS G mi_Dig_mix [.ref 67] v (fun r v' => r = none ∧ v' = v) := by
  refine CS.of (by decide) (Nat.le_of_ble_eq_true rfl) ?_
  generalize hQe : (fun (r : Option Value) (v' : Nat → Int32) => r = none ∧ v' = v) = Q
  have hQ : Q none v := by rw [← hQe]; exact ⟨rfl, rfl⟩
  clear hQe
  show ST G mi_Dig_mix 0 [(0, .ref 67)] [] v 0 0 Q
  refine ST.lift (fun _ _ k => T_bipush (v := nI 16) d_Dig_mix_0 (by decide) k) ?_
  refine ST.lift (fun _ _ k => T_istore_n (L' := [(1, .int (nI 16)), (0, .ref 67)]) d_Dig_mix_2 (by decide) rfl k) ?_
  have lp4 : ∀ (n2 k1 : Nat), 80 - k1 = n2 → 16 ≤ k1 ∧ k1 ≤ 16 + 80 → ST G mi_Dig_mix 3 [(1, .int (nI k1)), (0, .ref 67)] [] v 0 0 Q := by
    intro n2
    induction n2 using Nat.strongRecOn with
    | _ n2 ih3 =>
      intro k1 h5 h6
      refine ST.lift (fun _ _ k => T_iload_n d_Dig_mix_3 rfl k) ?_
      refine ST.lift (fun _ _ k => T_bipush (v := nI 80) d_Dig_mix_4 (by decide) k) ?_
      refine S_icmp_geN d_Dig_mix_6 rfl (by omega) (by omega) (fun c7 => ?_) (fun c7 => ?_)
      · refine ST.lift (fun _ _ k => T_aload_n (v := .ref 67) d_Dig_mix_119 rfl (Or.inr ⟨_, rfl⟩) k) ?_
        refine S_getfield d_Dig_mix_120 fg_Dig_7 (w67 _) rfl ?_
        refine ST.lift (fun _ _ k => T_iconst (v := nI 0) d_Dig_mix_123 (by decide) k) ?_
        refine S_laload d_Dig_mix_124 a68 (vp_in_nI (by omega) (by omega)) (fun z33 => ?_)
        refine ST.lift (fun _ _ k => T_lstore_n (L' := [(1, .long z33), (0, .ref 67)]) d_Dig_mix_125 (by decide) rfl k) ?_
        refine ST.lift (fun _ _ k => T_aload_n (v := .ref 67) d_Dig_mix_126 rfl (Or.inr ⟨_, rfl⟩) k) ?_
        refine S_getfield d_Dig_mix_127 fg_Dig_7 (w67 _) rfl ?_
        refine ST.lift (fun _ _ k => T_iconst (v := nI 1) d_Dig_mix_130 (by decide) k) ?_
        refine S_laload d_Dig_mix_131 a68 (vp_in_nI (by omega) (by omega)) (fun z34 => ?_)
        refine ST.lift (fun _ _ k => T_lstore_n (L' := [(3, .long z34), (1, .long z33), (0, .ref 67)]) d_Dig_mix_132 (by decide) rfl k) ?_
        refine ST.lift (fun _ _ k => T_aload_n (v := .ref 67) d_Dig_mix_133 rfl (Or.inr ⟨_, rfl⟩) k) ?_
        refine S_getfield d_Dig_mix_134 fg_Dig_7 (w67 _) rfl ?_
        refine ST.lift (fun _ _ k => T_iconst (v := nI 2) d_Dig_mix_137 (by decide) k) ?_
        refine S_laload d_Dig_mix_138 a68 (vp_in_nI (by omega) (by omega)) (fun z35 => ?_)
        refine ST.lift (fun _ _ k => T_lstore (L' := [(5, .long z35), (3, .long z34), (1, .long z33), (0, .ref 67)]) d_Dig_mix_139 (by decide) rfl k) ?_
        refine ST.lift (fun _ _ k => T_aload_n (v := .ref 67) d_Dig_mix_141 rfl (Or.inr ⟨_, rfl⟩) k) ?_
        refine S_getfield d_Dig_mix_142 fg_Dig_7 (w67 _) rfl ?_
        refine ST.lift (fun _ _ k => T_iconst (v := nI 3) d_Dig_mix_145 (by decide) k) ?_
        refine S_laload d_Dig_mix_146 a68 (vp_in_nI (by omega) (by omega)) (fun z36 => ?_)
        refine ST.lift (fun _ _ k => T_lstore (L' := [(7, .long z36), (5, .long z35), (3, .long z34), (1, .long z33), (0, .ref 67)]) d_Dig_mix_147 (by decide) rfl k) ?_
        refine ST.lift (fun _ _ k => T_aload_n (v := .ref 67) d_Dig_mix_149 rfl (Or.inr ⟨_, rfl⟩) k) ?_
        refine S_getfield d_Dig_mix_150 fg_Dig_7 (w67 _) rfl ?_
        refine ST.lift (fun _ _ k => T_iconst (v := nI 4) d_Dig_mix_153 (by decide) k) ?_
        refine S_laload d_Dig_mix_154 a68 (vp_in_nI (by omega) (by omega)) (fun z37 => ?_)
        refine ST.lift (fun _ _ k => T_lstore (L' := [(9, .long z37), (7, .long z36), (5, .long z35), (3, .long z34), (1, .long z33), (0, .ref 67)]) d_Dig_mix_155 (by decide) rfl k) ?_
        refine ST.lift (fun _ _ k => T_aload_n (v := .ref 67) d_Dig_mix_157 rfl (Or.inr ⟨_, rfl⟩) k) ?_
        refine S_getfield d_Dig_mix_158 fg_Dig_7 (w67 _) rfl ?_
        refine ST.lift (fun _ _ k => T_iconst (v := nI 5) d_Dig_mix_161 (by decide) k) ?_
        refine S_laload d_Dig_mix_162 a68 (vp_in_nI (by omega) (by omega)) (fun z38 => ?_)
        refine ST.lift (fun _ _ k => T_lstore (L' := [(11, .long z38), (9, .long z37), (7, .long z36), (5, .long z35), (3, .long z34), (1, .long z33), (0, .ref 67)]) d_Dig_mix_163 (by decide) rfl k) ?_
        refine ST.lift (fun _ _ k => T_aload_n (v := .ref 67) d_Dig_mix_165 rfl (Or.inr ⟨_, rfl⟩) k) ?_
        refine S_getfield d_Dig_mix_166 fg_Dig_7 (w67 _) rfl ?_
        refine ST.lift (fun _ _ k => T_bipush (v := nI 6) d_Dig_mix_169 (by decide) k) ?_
        refine S_laload d_Dig_mix_171 a68 (vp_in_nI (by omega) (by omega)) (fun z39 => ?_)
        refine ST.lift (fun _ _ k => T_lstore (L' := [(13, .long z39), (11, .long z38), (9, .long z37), (7, .long z36), (5, .long z35), (3, .long z34), (1, .long z33), (0, .ref 67)]) d_Dig_mix_172 (by decide) rfl k) ?_
        refine ST.lift (fun _ _ k => T_aload_n (v := .ref 67) d_Dig_mix_174 rfl (Or.inr ⟨_, rfl⟩) k) ?_
        refine S_getfield d_Dig_mix_175 fg_Dig_7 (w67 _) rfl ?_
        refine ST.lift (fun _ _ k => T_bipush (v := nI 7) d_Dig_mix_178 (by decide) k) ?_
        refine S_laload d_Dig_mix_180 a68 (vp_in_nI (by omega) (by omega)) (fun z40 => ?_)
        refine ST.lift (fun _ _ k => T_lstore (L' := [(15, .long z40), (13, .long z39), (11, .long z38), (9, .long z37), (7, .long z36), (5, .long z35), (3, .long z34), (1, .long z33), (0, .ref 67)]) d_Dig_mix_181 (by decide) rfl k) ?_
        refine ST.lift (fun _ _ k => T_iconst (v := nI 0) d_Dig_mix_183 (by decide) k) ?_
        refine ST.lift (fun _ _ k => T_istore (L' := [(17, .int (nI 0)), (15, .long z40), (13, .long z39), (11, .long z38), (9, .long z37), (7, .long z36), (5, .long z35), (3, .long z34), (1, .long z33), (0, .ref 67)]) d_Dig_mix_184 (by decide) rfl k) ?_
        have lp52 : ∀ (n50 k41 : Nat) (z42 : Int64) (z43 : Int64) (z44 : Int64) (z45 : Int64) (z46 : Int64) (z47 : Int64) (z48 : Int64) (z49 : Int64), 80 - k41 = n50 → 0 ≤ k41 ∧ k41 ≤ 0 + 80 → ST G mi_Dig_mix 186 [(17, .int (nI k41)), (15, .long z42), (13, .long z43), (11, .long z44), (9, .long z45), (7, .long z46), (5, .long z47), (3, .long z48), (1, .long z49), (0, .ref 67)] [] v 0 0 Q := by
          intro n50
          induction n50 using Nat.strongRecOn with
          | _ n50 ih51 =>
            intro k41 z42 z43 z44 z45 z46 z47 z48 z49 h53 h54
            refine ST.lift (fun _ _ k => T_iload d_Dig_mix_186 rfl k) ?_
            refine ST.lift (fun _ _ k => T_bipush (v := nI 80) d_Dig_mix_188 (by decide) k) ?_
            refine S_icmp_geN d_Dig_mix_190 rfl (by omega) (by omega) (fun c55 => ?_) (fun c55 => ?_)
            · refine ST.lift (fun _ _ k => T_aload_n (v := .ref 67) d_Dig_mix_357 rfl (Or.inr ⟨_, rfl⟩) k) ?_
              refine S_getfield d_Dig_mix_358 fg_Dig_7 (w67 _) rfl ?_
              refine ST.lift (fun _ _ k => T_iconst (v := nI 0) d_Dig_mix_361 (by decide) k) ?_
              refine ST.lift (fun _ _ k => T_dup2 d_Dig_mix_362 rfl rfl k) ?_
              refine S_laload d_Dig_mix_363 a68 (vp_in_nI (by omega) (by omega)) (fun z96 => ?_)
              refine ST.lift (fun _ _ k => T_lload_n d_Dig_mix_364 rfl k) ?_
              refine ST.lift (fun _ _ k => T_ladd d_Dig_mix_365 k) (S_anyl fun z97 => ?_)
              refine S_lastore d_Dig_mix_366 (by decide) a68 (vp_in_nI (by omega) (by omega)) ?_
              refine ST.lift (fun _ _ k => T_aload_n (v := .ref 67) d_Dig_mix_367 rfl (Or.inr ⟨_, rfl⟩) k) ?_
              refine S_getfield d_Dig_mix_368 fg_Dig_7 (w67 _) rfl ?_
              refine ST.lift (fun _ _ k => T_iconst (v := nI 1) d_Dig_mix_371 (by decide) k) ?_
              refine ST.lift (fun _ _ k => T_dup2 d_Dig_mix_372 rfl rfl k) ?_
              refine S_laload d_Dig_mix_373 a68 (vp_in_nI (by omega) (by omega)) (fun z98 => ?_)
              refine ST.lift (fun _ _ k => T_lload_n d_Dig_mix_374 rfl k) ?_
              refine ST.lift (fun _ _ k => T_ladd d_Dig_mix_375 k) (S_anyl fun z99 => ?_)
              refine S_lastore d_Dig_mix_376 (by decide) a68 (vp_in_nI (by omega) (by omega)) ?_
              refine ST.lift (fun _ _ k => T_aload_n (v := .ref 67) d_Dig_mix_377 rfl (Or.inr ⟨_, rfl⟩) k) ?_
              refine S_getfield d_Dig_mix_378 fg_Dig_7 (w67 _) rfl ?_
              refine ST.lift (fun _ _ k => T_iconst (v := nI 2) d_Dig_mix_381 (by decide) k) ?_
              refine ST.lift (fun _ _ k => T_dup2 d_Dig_mix_382 rfl rfl k) ?_
              refine S_laload d_Dig_mix_383 a68 (vp_in_nI (by omega) (by omega)) (fun z100 => ?_)
              refine ST.lift (fun _ _ k => T_lload d_Dig_mix_384 rfl k) ?_
              refine ST.lift (fun _ _ k => T_ladd d_Dig_mix_386 k) (S_anyl fun z101 => ?_)
              refine S_lastore d_Dig_mix_387 (by decide) a68 (vp_in_nI (by omega) (by omega)) ?_
              refine ST.lift (fun _ _ k => T_aload_n (v := .ref 67) d_Dig_mix_388 rfl (Or.inr ⟨_, rfl⟩) k) ?_
              refine S_getfield d_Dig_mix_389 fg_Dig_7 (w67 _) rfl ?_
              refine ST.lift (fun _ _ k => T_iconst (v := nI 3) d_Dig_mix_392 (by decide) k) ?_
              refine ST.lift (fun _ _ k => T_dup2 d_Dig_mix_393 rfl rfl k) ?_
              refine S_laload d_Dig_mix_394 a68 (vp_in_nI (by omega) (by omega)) (fun z102 => ?_)
              refine ST.lift (fun _ _ k => T_lload d_Dig_mix_395 rfl k) ?_
              refine ST.lift (fun _ _ k => T_ladd d_Dig_mix_397 k) (S_anyl fun z103 => ?_)
              refine S_lastore d_Dig_mix_398 (by decide) a68 (vp_in_nI (by omega) (by omega)) ?_
              refine ST.lift (fun _ _ k => T_aload_n (v := .ref 67) d_Dig_mix_399 rfl (Or.inr ⟨_, rfl⟩) k) ?_
              refine S_getfield d_Dig_mix_400 fg_Dig_7 (w67 _) rfl ?_
              refine ST.lift (fun _ _ k => T_iconst (v := nI 4) d_Dig_mix_403 (by decide) k) ?_
              refine ST.lift (fun _ _ k => T_dup2 d_Dig_mix_404 rfl rfl k) ?_
              refine S_laload d_Dig_mix_405 a68 (vp_in_nI (by omega) (by omega)) (fun z104 => ?_)
              refine ST.lift (fun _ _ k => T_lload d_Dig_mix_406 rfl k) ?_
              refine ST.lift (fun _ _ k => T_ladd d_Dig_mix_408 k) (S_anyl fun z105 => ?_)
              refine S_lastore d_Dig_mix_409 (by decide) a68 (vp_in_nI (by omega) (by omega)) ?_
              refine ST.lift (fun _ _ k => T_aload_n (v := .ref 67) d_Dig_mix_410 rfl (Or.inr ⟨_, rfl⟩) k) ?_
              refine S_getfield d_Dig_mix_411 fg_Dig_7 (w67 _) rfl ?_
              refine ST.lift (fun _ _ k => T_iconst (v := nI 5) d_Dig_mix_414 (by decide) k) ?_
              refine ST.lift (fun _ _ k => T_dup2 d_Dig_mix_415 rfl rfl k) ?_
              refine S_laload d_Dig_mix_416 a68 (vp_in_nI (by omega) (by omega)) (fun z106 => ?_)
              refine ST.lift (fun _ _ k => T_lload d_Dig_mix_417 rfl k) ?_
              refine ST.lift (fun _ _ k => T_ladd d_Dig_mix_419 k) (S_anyl fun z107 => ?_)
              refine S_lastore d_Dig_mix_420 (by decide) a68 (vp_in_nI (by omega) (by omega)) ?_
              refine ST.lift (fun _ _ k => T_aload_n (v := .ref 67) d_Dig_mix_421 rfl (Or.inr ⟨_, rfl⟩) k) ?_
              refine S_getfield d_Dig_mix_422 fg_Dig_7 (w67 _) rfl ?_
              refine ST.lift (fun _ _ k => T_bipush (v := nI 6) d_Dig_mix_425 (by decide) k) ?_
              refine ST.lift (fun _ _ k => T_dup2 d_Dig_mix_427 rfl rfl k) ?_
              refine S_laload d_Dig_mix_428 a68 (vp_in_nI (by omega) (by omega)) (fun z108 => ?_)
              refine ST.lift (fun _ _ k => T_lload d_Dig_mix_429 rfl k) ?_
              refine ST.lift (fun _ _ k => T_ladd d_Dig_mix_431 k) (S_anyl fun z109 => ?_)
              refine S_lastore d_Dig_mix_432 (by decide) a68 (vp_in_nI (by omega) (by omega)) ?_
              refine ST.lift (fun _ _ k => T_aload_n (v := .ref 67) d_Dig_mix_433 rfl (Or.inr ⟨_, rfl⟩) k) ?_
              refine S_getfield d_Dig_mix_434 fg_Dig_7 (w67 _) rfl ?_
              refine ST.lift (fun _ _ k => T_bipush (v := nI 7) d_Dig_mix_437 (by decide) k) ?_
              refine ST.lift (fun _ _ k => T_dup2 d_Dig_mix_439 rfl rfl k) ?_
              refine S_laload d_Dig_mix_440 a68 (vp_in_nI (by omega) (by omega)) (fun z110 => ?_)
              refine ST.lift (fun _ _ k => T_lload d_Dig_mix_441 rfl k) ?_
              refine ST.lift (fun _ _ k => T_ladd d_Dig_mix_443 k) (S_anyl fun z111 => ?_)
              refine S_lastore d_Dig_mix_444 (by decide) a68 (vp_in_nI (by omega) (by omega)) ?_
              exact S_vret d_Dig_mix_445 rfl (by decide) (by decide) hQ
            · refine ST.lift (fun _ _ k => T_lload d_Dig_mix_193 rfl k) ?_
              refine ST.lift (fun _ _ k => T_bipush (v := nI 14) d_Dig_mix_195 (by decide) k) ?_
              refine ST.lift (fun _ _ k => T_lushr d_Dig_mix_197 k) (S_anyl fun z112 => ?_)
              refine ST.lift (fun _ _ k => T_lload d_Dig_mix_198 rfl k) ?_
              refine ST.lift (fun _ _ k => T_bipush (v := nI 50) d_Dig_mix_200 (by decide) k) ?_
              refine ST.lift (fun _ _ k => T_lshl d_Dig_mix_202 k) (S_anyl fun z113 => ?_)
              refine ST.lift (fun _ _ k => T_lor d_Dig_mix_203 k) (S_anyl fun z114 => ?_)
              refine ST.lift (fun _ _ k => T_lload d_Dig_mix_204 rfl k) ?_
              refine ST.lift (fun _ _ k => T_bipush (v := nI 18) d_Dig_mix_206 (by decide) k) ?_
              refine ST.lift (fun _ _ k => T_lushr d_Dig_mix_208 k) (S_anyl fun z115 => ?_)
              refine ST.lift (fun _ _ k => T_lload d_Dig_mix_209 rfl k) ?_
              refine ST.lift (fun _ _ k => T_bipush (v := nI 46) d_Dig_mix_211 (by decide) k) ?_
              refine ST.lift (fun _ _ k => T_lshl d_Dig_mix_213 k) (S_anyl fun z116 => ?_)
              refine ST.lift (fun _ _ k => T_lor d_Dig_mix_214 k) (S_anyl fun z117 => ?_)
              refine ST.lift (fun _ _ k => T_lxor d_Dig_mix_215 k) (S_anyl fun z118 => ?_)
              refine ST.lift (fun _ _ k => T_lload d_Dig_mix_216 rfl k) ?_
              refine ST.lift (fun _ _ k => T_bipush (v := nI 41) d_Dig_mix_218 (by decide) k) ?_
              refine ST.lift (fun _ _ k => T_lushr d_Dig_mix_220 k) (S_anyl fun z119 => ?_)
              refine ST.lift (fun _ _ k => T_lload d_Dig_mix_221 rfl k) ?_
              refine ST.lift (fun _ _ k => T_bipush (v := nI 23) d_Dig_mix_223 (by decide) k) ?_
              refine ST.lift (fun _ _ k => T_lshl d_Dig_mix_225 k) (S_anyl fun z120 => ?_)
              refine ST.lift (fun _ _ k => T_lor d_Dig_mix_226 k) (S_anyl fun z121 => ?_)
              refine ST.lift (fun _ _ k => T_lxor d_Dig_mix_227 k) (S_anyl fun z122 => ?_)
              refine ST.lift (fun _ _ k => T_lstore (L' := [(18, .long z122), (17, .int (nI k41)), (15, .long z42), (13, .long z43), (11, .long z44), (9, .long z45), (7, .long z46), (5, .long z47), (3, .long z48), (1, .long z49), (0, .ref 67)]) d_Dig_mix_228 (by decide) rfl k) ?_
              refine ST.lift (fun _ _ k => T_lload d_Dig_mix_230 rfl k) ?_
              refine ST.lift (fun _ _ k => T_lload d_Dig_mix_232 rfl k) ?_
              refine ST.lift (fun _ _ k => T_ladd d_Dig_mix_234 k) (S_anyl fun z123 => ?_)
              refine ST.lift (fun _ _ k => T_lload d_Dig_mix_235 rfl k) ?_
              refine ST.lift (fun _ _ k => T_lload d_Dig_mix_237 rfl k) ?_
              refine ST.lift (fun _ _ k => T_land d_Dig_mix_239 k) (S_anyl fun z124 => ?_)
              refine ST.lift (fun _ _ k => T_lload d_Dig_mix_240 rfl k) ?_
              refine ST.lift (fun _ _ k => T_ldc2 d_Dig_mix_242 kJ_Dig_44 k) ?_
              refine ST.lift (fun _ _ k => T_lxor d_Dig_mix_245 k) (S_anyl fun z125 => ?_)
              refine ST.lift (fun _ _ k => T_lload d_Dig_mix_246 rfl k) ?_
              refine ST.lift (fun _ _ k => T_land d_Dig_mix_248 k) (S_anyl fun z126 => ?_)
              refine ST.lift (fun _ _ k => T_lxor d_Dig_mix_249 k) (S_anyl fun z127 => ?_)
              refine ST.lift (fun _ _ k => T_ladd d_Dig_mix_250 k) (S_anyl fun z128 => ?_)
              refine ST.lift (fun _ _ k => T_getstatic (q := ("PasswordGate$Digest", "ADDED", "[J", .ref 1)) d_Dig_mix_251 (List.mem_of_getElem? (i := 1) rfl) gs_Dig_46 (show 1 < K0 by decide) k) ?_
              refine ST.lift (fun _ _ k => T_iload d_Dig_mix_254 rfl k) ?_
              refine S_laload d_Dig_mix_256 a1 (vp_in_nI (by omega) (by omega)) (fun z129 => ?_)
              refine ST.lift (fun _ _ k => T_ladd d_Dig_mix_257 k) (S_anyl fun z130 => ?_)
              refine ST.lift (fun _ _ k => T_aload_n (v := .ref 67) d_Dig_mix_258 rfl (Or.inr ⟨_, rfl⟩) k) ?_
              refine S_getfield d_Dig_mix_259 fg_Dig_13 (w67 _) rfl ?_
              refine ST.lift (fun _ _ k => T_iload d_Dig_mix_262 rfl k) ?_
              refine S_laload d_Dig_mix_264 a69 (vp_in_nI (by omega) (by omega)) (fun z131 => ?_)
              refine ST.lift (fun _ _ k => T_ladd d_Dig_mix_265 k) (S_anyl fun z132 => ?_)
              refine ST.lift (fun _ _ k => T_lstore (L' := [(20, .long z132), (18, .long z122), (17, .int (nI k41)), (15, .long z42), (13, .long z43), (11, .long z44), (9, .long z45), (7, .long z46), (5, .long z47), (3, .long z48), (1, .long z49), (0, .ref 67)]) d_Dig_mix_266 (by decide) rfl k) ?_
              refine ST.lift (fun _ _ k => T_lload_n d_Dig_mix_268 rfl k) ?_
              refine ST.lift (fun _ _ k => T_bipush (v := nI 28) d_Dig_mix_269 (by decide) k) ?_
              refine ST.lift (fun _ _ k => T_lushr d_Dig_mix_271 k) (S_anyl fun z133 => ?_)
              refine ST.lift (fun _ _ k => T_lload_n d_Dig_mix_272 rfl k) ?_
              refine ST.lift (fun _ _ k => T_bipush (v := nI 36) d_Dig_mix_273 (by decide) k) ?_
              refine ST.lift (fun _ _ k => T_lshl d_Dig_mix_275 k) (S_anyl fun z134 => ?_)
              refine ST.lift (fun _ _ k => T_lor d_Dig_mix_276 k) (S_anyl fun z135 => ?_)
              refine ST.lift (fun _ _ k => T_lload_n d_Dig_mix_277 rfl k) ?_
              refine ST.lift (fun _ _ k => T_bipush (v := nI 34) d_Dig_mix_278 (by decide) k) ?_
              refine ST.lift (fun _ _ k => T_lushr d_Dig_mix_280 k) (S_anyl fun z136 => ?_)
              refine ST.lift (fun _ _ k => T_lload_n d_Dig_mix_281 rfl k) ?_
              refine ST.lift (fun _ _ k => T_bipush (v := nI 30) d_Dig_mix_282 (by decide) k) ?_
              refine ST.lift (fun _ _ k => T_lshl d_Dig_mix_284 k) (S_anyl fun z137 => ?_)
              refine ST.lift (fun _ _ k => T_lor d_Dig_mix_285 k) (S_anyl fun z138 => ?_)
              refine ST.lift (fun _ _ k => T_lxor d_Dig_mix_286 k) (S_anyl fun z139 => ?_)
              refine ST.lift (fun _ _ k => T_lload_n d_Dig_mix_287 rfl k) ?_
              refine ST.lift (fun _ _ k => T_bipush (v := nI 39) d_Dig_mix_288 (by decide) k) ?_
              refine ST.lift (fun _ _ k => T_lushr d_Dig_mix_290 k) (S_anyl fun z140 => ?_)
              refine ST.lift (fun _ _ k => T_lload_n d_Dig_mix_291 rfl k) ?_
              refine ST.lift (fun _ _ k => T_bipush (v := nI 25) d_Dig_mix_292 (by decide) k) ?_
              refine ST.lift (fun _ _ k => T_lshl d_Dig_mix_294 k) (S_anyl fun z141 => ?_)
              refine ST.lift (fun _ _ k => T_lor d_Dig_mix_295 k) (S_anyl fun z142 => ?_)
              refine ST.lift (fun _ _ k => T_lxor d_Dig_mix_296 k) (S_anyl fun z143 => ?_)
              refine ST.lift (fun _ _ k => T_lstore (L' := [(18, .long z143), (20, .long z132), (17, .int (nI k41)), (15, .long z42), (13, .long z43), (11, .long z44), (9, .long z45), (7, .long z46), (5, .long z47), (3, .long z48), (1, .long z49), (0, .ref 67)]) d_Dig_mix_297 (by decide) rfl k) ?_
              refine ST.lift (fun _ _ k => T_lload d_Dig_mix_299 rfl k) ?_
              refine ST.lift (fun _ _ k => T_lload_n d_Dig_mix_301 rfl k) ?_
              refine ST.lift (fun _ _ k => T_lload_n d_Dig_mix_302 rfl k) ?_
              refine ST.lift (fun _ _ k => T_land d_Dig_mix_303 k) (S_anyl fun z144 => ?_)
              refine ST.lift (fun _ _ k => T_lload_n d_Dig_mix_304 rfl k) ?_
              refine ST.lift (fun _ _ k => T_lload d_Dig_mix_305 rfl k) ?_
              refine ST.lift (fun _ _ k => T_land d_Dig_mix_307 k) (S_anyl fun z145 => ?_)
              refine ST.lift (fun _ _ k => T_lxor d_Dig_mix_308 k) (S_anyl fun z146 => ?_)
              refine ST.lift (fun _ _ k => T_lload_n d_Dig_mix_309 rfl k) ?_
              refine ST.lift (fun _ _ k => T_lload d_Dig_mix_310 rfl k) ?_
              refine ST.lift (fun _ _ k => T_land d_Dig_mix_312 k) (S_anyl fun z147 => ?_)
              refine ST.lift (fun _ _ k => T_lxor d_Dig_mix_313 k) (S_anyl fun z148 => ?_)
              refine ST.lift (fun _ _ k => T_ladd d_Dig_mix_314 k) (S_anyl fun z149 => ?_)
              refine ST.lift (fun _ _ k => T_lstore (L' := [(22, .long z149), (18, .long z143), (20, .long z132), (17, .int (nI k41)), (15, .long z42), (13, .long z43), (11, .long z44), (9, .long z45), (7, .long z46), (5, .long z47), (3, .long z48), (1, .long z49), (0, .ref 67)]) d_Dig_mix_315 (by decide) rfl k) ?_
              refine ST.lift (fun _ _ k => T_lload d_Dig_mix_317 rfl k) ?_
              refine ST.lift (fun _ _ k => T_lstore (L' := [(15, .long z43), (22, .long z149), (18, .long z143), (20, .long z132), (17, .int (nI k41)), (13, .long z43), (11, .long z44), (9, .long z45), (7, .long z46), (5, .long z47), (3, .long z48), (1, .long z49), (0, .ref 67)]) d_Dig_mix_319 (by decide) rfl k) ?_
              refine ST.lift (fun _ _ k => T_lload d_Dig_mix_321 rfl k) ?_
              refine ST.lift (fun _ _ k => T_lstore (L' := [(13, .long z44), (15, .long z43), (22, .long z149), (18, .long z143), (20, .long z132), (17, .int (nI k41)), (11, .long z44), (9, .long z45), (7, .long z46), (5, .long z47), (3, .long z48), (1, .long z49), (0, .ref 67)]) d_Dig_mix_323 (by decide) rfl k) ?_
              refine ST.lift (fun _ _ k => T_lload d_Dig_mix_325 rfl k) ?_
              refine ST.lift (fun _ _ k => T_lstore (L' := [(11, .long z45), (13, .long z44), (15, .long z43), (22, .long z149), (18, .long z143), (20, .long z132), (17, .int (nI k41)), (9, .long z45), (7, .long z46), (5, .long z47), (3, .long z48), (1, .long z49), (0, .ref 67)]) d_Dig_mix_327 (by decide) rfl k) ?_
              refine ST.lift (fun _ _ k => T_lload d_Dig_mix_329 rfl k) ?_
              refine ST.lift (fun _ _ k => T_lload d_Dig_mix_331 rfl k) ?_
              refine ST.lift (fun _ _ k => T_ladd d_Dig_mix_333 k) (S_anyl fun z150 => ?_)
              refine ST.lift (fun _ _ k => T_lstore (L' := [(9, .long z150), (11, .long z45), (13, .long z44), (15, .long z43), (22, .long z149), (18, .long z143), (20, .long z132), (17, .int (nI k41)), (7, .long z46), (5, .long z47), (3, .long z48), (1, .long z49), (0, .ref 67)]) d_Dig_mix_334 (by decide) rfl k) ?_
              refine ST.lift (fun _ _ k => T_lload d_Dig_mix_336 rfl k) ?_
              refine ST.lift (fun _ _ k => T_lstore (L' := [(7, .long z47), (9, .long z150), (11, .long z45), (13, .long z44), (15, .long z43), (22, .long z149), (18, .long z143), (20, .long z132), (17, .int (nI k41)), (5, .long z47), (3, .long z48), (1, .long z49), (0, .ref 67)]) d_Dig_mix_338 (by decide) rfl k) ?_
              refine ST.lift (fun _ _ k => T_lload_n d_Dig_mix_340 rfl k) ?_
              refine ST.lift (fun _ _ k => T_lstore (L' := [(5, .long z48), (7, .long z47), (9, .long z150), (11, .long z45), (13, .long z44), (15, .long z43), (22, .long z149), (18, .long z143), (20, .long z132), (17, .int (nI k41)), (3, .long z48), (1, .long z49), (0, .ref 67)]) d_Dig_mix_341 (by decide) rfl k) ?_
              refine ST.lift (fun _ _ k => T_lload_n d_Dig_mix_343 rfl k) ?_
              refine ST.lift (fun _ _ k => T_lstore_n (L' := [(3, .long z49), (5, .long z48), (7, .long z47), (9, .long z150), (11, .long z45), (13, .long z44), (15, .long z43), (22, .long z149), (18, .long z143), (20, .long z132), (17, .int (nI k41)), (1, .long z49), (0, .ref 67)]) d_Dig_mix_344 (by decide) rfl k) ?_
              refine ST.lift (fun _ _ k => T_lload d_Dig_mix_345 rfl k) ?_
              refine ST.lift (fun _ _ k => T_lload d_Dig_mix_347 rfl k) ?_
              refine ST.lift (fun _ _ k => T_ladd d_Dig_mix_349 k) (S_anyl fun z151 => ?_)
              refine ST.lift (fun _ _ k => T_lstore_n (L' := [(1, .long z151), (3, .long z49), (5, .long z48), (7, .long z47), (9, .long z150), (11, .long z45), (13, .long z44), (15, .long z43), (22, .long z149), (18, .long z143), (20, .long z132), (17, .int (nI k41)), (0, .ref 67)]) d_Dig_mix_350 (by decide) rfl k) ?_
              refine S_iincN (a := k41) (b := 1) (L' := [(17, .int (nI (k41 + 1))), (1, .long z151), (3, .long z49), (5, .long z48), (7, .long z47), (9, .long z150), (11, .long z45), (13, .long z44), (15, .long z43), (22, .long z149), (18, .long z143), (20, .long z132), (0, .ref 67)]) d_Dig_mix_351 (by decide) rfl rfl rfl ?_
              refine ST.lift (fun _ _ k => T_goto (tgt := 186) d_Dig_mix_354 rfl k) ?_
              refine S_pick [0, 8, 7, 6, 5, 4, 3, 2, 1, 12] rfl ?_
              exact ih51 (80 - (k41 + 1)) (by omega) (k41 + 1) z43 z44 z45 z150 z47 z48 z49 z151 rfl (by omega)
        exact lp52 _ 0 z40 z39 z38 z37 z36 z35 z34 z33 rfl (by omega)
      · refine ST.lift (fun _ _ k => T_aload_n (v := .ref 67) d_Dig_mix_9 rfl (Or.inr ⟨_, rfl⟩) k) ?_
        refine S_getfield d_Dig_mix_10 fg_Dig_13 (w67 _) rfl ?_
        refine ST.lift (fun _ _ k => T_iload_n d_Dig_mix_13 rfl k) ?_
        refine ST.lift (fun _ _ k => T_iconst (v := nI 2) d_Dig_mix_14 (by decide) k) ?_
        refine S_isubN d_Dig_mix_15 (by omega) ?_
        refine S_laload d_Dig_mix_16 a69 (vp_in_nI (by omega) (by omega)) (fun z152 => ?_)
        refine ST.lift (fun _ _ k => T_lstore_n (L' := [(2, .long z152), (1, .int (nI k1)), (0, .ref 67)]) d_Dig_mix_17 (by decide) rfl k) ?_
        refine ST.lift (fun _ _ k => T_aload_n (v := .ref 67) d_Dig_mix_18 rfl (Or.inr ⟨_, rfl⟩) k) ?_
        refine S_getfield d_Dig_mix_19 fg_Dig_13 (w67 _) rfl ?_
        refine ST.lift (fun _ _ k => T_iload_n d_Dig_mix_22 rfl k) ?_
        refine ST.lift (fun _ _ k => T_bipush (v := nI 15) d_Dig_mix_23 (by decide) k) ?_
        refine S_isubN d_Dig_mix_25 (by omega) ?_
        refine S_laload d_Dig_mix_26 a69 (vp_in_nI (by omega) (by omega)) (fun z153 => ?_)
        refine ST.lift (fun _ _ k => T_lstore (L' := [(4, .long z153), (2, .long z152), (1, .int (nI k1)), (0, .ref 67)]) d_Dig_mix_27 (by decide) rfl k) ?_
        refine ST.lift (fun _ _ k => T_lload_n d_Dig_mix_29 rfl k) ?_
        refine ST.lift (fun _ _ k => T_bipush (v := nI 19) d_Dig_mix_30 (by decide) k) ?_
        refine ST.lift (fun _ _ k => T_lushr d_Dig_mix_32 k) (S_anyl fun z154 => ?_)
        refine ST.lift (fun _ _ k => T_lload_n d_Dig_mix_33 rfl k) ?_
        refine ST.lift (fun _ _ k => T_bipush (v := nI 45) d_Dig_mix_34 (by decide) k) ?_
        refine ST.lift (fun _ _ k => T_lshl d_Dig_mix_36 k) (S_anyl fun z155 => ?_)
        refine ST.lift (fun _ _ k => T_lor d_Dig_mix_37 k) (S_anyl fun z156 => ?_)
        refine ST.lift (fun _ _ k => T_lload_n d_Dig_mix_38 rfl k) ?_
        refine ST.lift (fun _ _ k => T_bipush (v := nI 61) d_Dig_mix_39 (by decide) k) ?_
        refine ST.lift (fun _ _ k => T_lushr d_Dig_mix_41 k) (S_anyl fun z157 => ?_)
        refine ST.lift (fun _ _ k => T_lload_n d_Dig_mix_42 rfl k) ?_
        refine ST.lift (fun _ _ k => T_iconst (v := nI 3) d_Dig_mix_43 (by decide) k) ?_
        refine ST.lift (fun _ _ k => T_lshl d_Dig_mix_44 k) (S_anyl fun z158 => ?_)
        refine ST.lift (fun _ _ k => T_lor d_Dig_mix_45 k) (S_anyl fun z159 => ?_)
        refine ST.lift (fun _ _ k => T_lxor d_Dig_mix_46 k) (S_anyl fun z160 => ?_)
        refine ST.lift (fun _ _ k => T_lload_n d_Dig_mix_47 rfl k) ?_
        refine ST.lift (fun _ _ k => T_bipush (v := nI 6) d_Dig_mix_48 (by decide) k) ?_
        refine ST.lift (fun _ _ k => T_lushr d_Dig_mix_50 k) (S_anyl fun z161 => ?_)
        refine ST.lift (fun _ _ k => T_lxor d_Dig_mix_51 k) (S_anyl fun z162 => ?_)
        refine ST.lift (fun _ _ k => T_lstore_n (L' := [(2, .long z162), (4, .long z153), (1, .int (nI k1)), (0, .ref 67)]) d_Dig_mix_52 (by decide) rfl k) ?_
        refine ST.lift (fun _ _ k => T_lload d_Dig_mix_53 rfl k) ?_
        refine ST.lift (fun _ _ k => T_iconst (v := nI 1) d_Dig_mix_55 (by decide) k) ?_
        refine ST.lift (fun _ _ k => T_lushr d_Dig_mix_56 k) (S_anyl fun z163 => ?_)
        refine ST.lift (fun _ _ k => T_lload d_Dig_mix_57 rfl k) ?_
        refine ST.lift (fun _ _ k => T_bipush (v := nI 63) d_Dig_mix_59 (by decide) k) ?_
        refine ST.lift (fun _ _ k => T_lshl d_Dig_mix_61 k) (S_anyl fun z164 => ?_)
        refine ST.lift (fun _ _ k => T_lor d_Dig_mix_62 k) (S_anyl fun z165 => ?_)
        refine ST.lift (fun _ _ k => T_lload d_Dig_mix_63 rfl k) ?_
        refine ST.lift (fun _ _ k => T_bipush (v := nI 8) d_Dig_mix_65 (by decide) k) ?_
        refine ST.lift (fun _ _ k => T_lushr d_Dig_mix_67 k) (S_anyl fun z166 => ?_)
        refine ST.lift (fun _ _ k => T_lload d_Dig_mix_68 rfl k) ?_
        refine ST.lift (fun _ _ k => T_bipush (v := nI 56) d_Dig_mix_70 (by decide) k) ?_
        refine ST.lift (fun _ _ k => T_lshl d_Dig_mix_72 k) (S_anyl fun z167 => ?_)
        refine ST.lift (fun _ _ k => T_lor d_Dig_mix_73 k) (S_anyl fun z168 => ?_)
        refine ST.lift (fun _ _ k => T_lxor d_Dig_mix_74 k) (S_anyl fun z169 => ?_)
        refine ST.lift (fun _ _ k => T_lload d_Dig_mix_75 rfl k) ?_
        refine ST.lift (fun _ _ k => T_bipush (v := nI 7) d_Dig_mix_77 (by decide) k) ?_
        refine ST.lift (fun _ _ k => T_lushr d_Dig_mix_79 k) (S_anyl fun z170 => ?_)
        refine ST.lift (fun _ _ k => T_lxor d_Dig_mix_80 k) (S_anyl fun z171 => ?_)
        refine ST.lift (fun _ _ k => T_lstore (L' := [(4, .long z171), (2, .long z162), (1, .int (nI k1)), (0, .ref 67)]) d_Dig_mix_81 (by decide) rfl k) ?_
        refine ST.lift (fun _ _ k => T_aload_n (v := .ref 67) d_Dig_mix_83 rfl (Or.inr ⟨_, rfl⟩) k) ?_
        refine S_getfield d_Dig_mix_84 fg_Dig_13 (w67 _) rfl ?_
        refine ST.lift (fun _ _ k => T_iload_n d_Dig_mix_87 rfl k) ?_
        refine ST.lift (fun _ _ k => T_lload_n d_Dig_mix_88 rfl k) ?_
        refine ST.lift (fun _ _ k => T_aload_n (v := .ref 67) d_Dig_mix_89 rfl (Or.inr ⟨_, rfl⟩) k) ?_
        refine S_getfield d_Dig_mix_90 fg_Dig_13 (w67 _) rfl ?_
        refine ST.lift (fun _ _ k => T_iload_n d_Dig_mix_93 rfl k) ?_
        refine ST.lift (fun _ _ k => T_bipush (v := nI 7) d_Dig_mix_94 (by decide) k) ?_
        refine S_isubN d_Dig_mix_96 (by omega) ?_
        refine S_laload d_Dig_mix_97 a69 (vp_in_nI (by omega) (by omega)) (fun z172 => ?_)
        refine ST.lift (fun _ _ k => T_ladd d_Dig_mix_98 k) (S_anyl fun z173 => ?_)
        refine ST.lift (fun _ _ k => T_lload d_Dig_mix_99 rfl k) ?_
        refine ST.lift (fun _ _ k => T_ladd d_Dig_mix_101 k) (S_anyl fun z174 => ?_)
        refine ST.lift (fun _ _ k => T_aload_n (v := .ref 67) d_Dig_mix_102 rfl (Or.inr ⟨_, rfl⟩) k) ?_
        refine S_getfield d_Dig_mix_103 fg_Dig_13 (w67 _) rfl ?_
        refine ST.lift (fun _ _ k => T_iload_n d_Dig_mix_106 rfl k) ?_
        refine ST.lift (fun _ _ k => T_bipush (v := nI 16) d_Dig_mix_107 (by decide) k) ?_
        refine S_isubN d_Dig_mix_109 (by omega) ?_
        refine S_laload d_Dig_mix_110 a69 (vp_in_nI (by omega) (by omega)) (fun z175 => ?_)
        refine ST.lift (fun _ _ k => T_ladd d_Dig_mix_111 k) (S_anyl fun z176 => ?_)
        refine S_lastore d_Dig_mix_112 (by decide) a69 (vp_in_nI (by omega) (by omega)) ?_
        refine S_iincN (a := k1) (b := 1) (L' := [(1, .int (nI (k1 + 1))), (4, .long z171), (2, .long z162), (0, .ref 67)]) d_Dig_mix_113 (by decide) rfl rfl rfl ?_
        refine ST.lift (fun _ _ k => T_goto (tgt := 3) d_Dig_mix_116 rfl k) ?_
        refine S_pick [0, 3] rfl ?_
        exact ih3 (80 - (k1 + 1)) (by omega) (k1 + 1)  rfl (by omega)
  exact lp4 _ 16  rfl (by omega)
set_option maxRecDepth 100000 in
set_option maxHeartbeats 4000000 in
theorem c_Dig_run_67 (G : GX) (v : Nat → Int32) (a ad ac aj : Nat) (y_a : isBy a ad ac aj) (to m : Nat) (w_to : K0 ≤ to) (a_to : aB to m) (l_to : m ≤ 2000) (h64 : 64 ≤ m) (hv : okv v) : CS G mi_Dig_run [.ref 67, .ref a, .ref to] v (fun r v' => r = none ∧ okv v' ∧ mdf [] v v') := by
  refine CS.of (by decide) (Nat.le_of_ble_eq_true rfl) ?_
  generalize hQe : (fun (r : Option Value) (v' : Nat → Int32) => r = none ∧ okv v' ∧ mdf [] v v') = Q
  have hQ : ∀ u, okv u → mdf [] v u → Q none u := by rw [← hQe]; exact fun u h1 h2 => ⟨rfl, h1, h2⟩
  clear hQe
  have hm : mdf [] v v := mdf.rf
  have l_a := y_a.2.2.2.2.2
  show ST G mi_Dig_run 0 [(0, .ref 67), (1, .ref a), (2, .ref to)] [] v 0 0 Q
  refine ST.lift (fun _ _ k => T_getstatic (q := ("PasswordGate$Digest", "FIRST", "[J", .ref 0)) d_Dig_run_0 (List.mem_of_getElem? (i := 0) rfl) gs_Dig_16 (show 0 < K0 by decide) k) ?_
  refine ST.lift (fun _ _ k => T_iconst (v := nI 0) d_Dig_run_3 (by decide) k) ?_
  refine ST.lift (fun _ _ k => T_aload_n (v := .ref 67) d_Dig_run_4 rfl (Or.inr ⟨_, rfl⟩) k) ?_
  refine S_getfield d_Dig_run_5 fg_Dig_7 (w67 _) rfl ?_
  refine ST.lift (fun _ _ k => T_iconst (v := nI 0) d_Dig_run_8 (by decide) k) ?_
  refine ST.lift (fun _ _ k => T_bipush (v := nI 8) d_Dig_run_9 (by decide) k) ?_
  refine S_copyL d_Dig_run_11 lm_Dig_19 (by decide) a0 a68 (by omega) (by omega) (by omega) (by omega) (by omega) (by decide) (Nat.le_of_ble_eq_true rfl) ?_
  refine ST.lift (fun _ _ k => T_aload_n (v := .ref a) d_Dig_run_14 rfl (Or.inr ⟨_, rfl⟩) k) ?_
  obtain ⟨k1, hk1, ek1⟩ := hv.get (j := aj) (c := ac) y_a.2.2.2.2.1
  refine S_getfield d_Dig_run_15 fg_Dig_25 (y_a.1 _) rfl ?_
  refine S_topi (y := nI k1) (ek1) ?_
  refine ST.lift (fun _ _ k => T_bipush (v := nI 16) d_Dig_run_18 (by decide) k) ?_
  refine S_iaddN d_Dig_run_20 ?_
  refine ST.lift (fun _ _ k => T_sipush (v := nI 128) d_Dig_run_21 (by decide) k) ?_
  refine S_idivN d_Dig_run_24 (by omega) (by omega) (by omega) ?_
  refine ST.lift (fun _ _ k => T_iconst (v := nI 1) d_Dig_run_25 (by decide) k) ?_
  refine S_iaddN d_Dig_run_26 ?_
  refine ST.lift (fun _ _ k => T_istore_n (L' := [(3, .int (nI (((k1 + 16) / 128) + 1))), (0, .ref 67), (1, .ref a), (2, .ref to)]) d_Dig_run_27 (by decide) rfl k) ?_
  refine ST.lift (fun _ _ k => T_iconst (v := nI 0) d_Dig_run_28 (by decide) k) ?_
  refine ST.lift (fun _ _ k => T_istore (L' := [(4, .int (nI 0)), (3, .int (nI (((k1 + 16) / 128) + 1))), (0, .ref 67), (1, .ref a), (2, .ref to)]) d_Dig_run_29 (by decide) rfl k) ?_
  have lp6 : ∀ (n4 k2 : Nat) (u3 : Nat → Int32) (hv_u3 : okv u3) (hm_u3 : mdf [] v u3), (((k1 + 16) / 128) + 1) - k2 = n4 → 0 ≤ k2 ∧ k2 ≤ 0 + (((k1 + 16) / 128) + 1) → ST G mi_Dig_run 31 [(4, .int (nI k2)), (3, .int (nI (((k1 + 16) / 128) + 1))), (0, .ref 67), (1, .ref a), (2, .ref to)] [] u3 0 0 Q := by
    intro n4
    induction n4 using Nat.strongRecOn with
    | _ n4 ih5 =>
      intro k2 u3 hv_u3 hm_u3 h7 h8
      refine ST.lift (fun _ _ k => T_iload d_Dig_run_31 rfl k) ?_
      refine ST.lift (fun _ _ k => T_iload_n d_Dig_run_33 rfl k) ?_
      refine S_icmp_geN d_Dig_run_34 rfl (by omega) (by omega) (fun c9 => ?_) (fun c9 => ?_)
      · refine ST.lift (fun _ _ k => T_iconst (v := nI 0) d_Dig_run_82 (by decide) k) ?_
        refine ST.lift (fun _ _ k => T_istore (L' := [(4, .int (nI 0)), (3, .int (nI (((k1 + 16) / 128) + 1))), (0, .ref 67), (1, .ref a), (2, .ref to)]) d_Dig_run_83 (by decide) rfl k) ?_
        have lp25 : ∀ (n23 k22 : Nat), 64 - k22 = n23 → 0 ≤ k22 ∧ k22 ≤ 0 + 64 → ST G mi_Dig_run 85 [(4, .int (nI k22)), (3, .int (nI (((k1 + 16) / 128) + 1))), (0, .ref 67), (1, .ref a), (2, .ref to)] [] u3 0 0 Q := by
          intro n23
          induction n23 using Nat.strongRecOn with
          | _ n23 ih24 =>
            intro k22 h26 h27
            refine ST.lift (fun _ _ k => T_iload d_Dig_run_85 rfl k) ?_
            refine ST.lift (fun _ _ k => T_bipush (v := nI 64) d_Dig_run_87 (by decide) k) ?_
            refine S_icmp_geN d_Dig_run_89 rfl (by omega) (by omega) (fun c28 => ?_) (fun c28 => ?_)
            · exact S_vret d_Dig_run_125 rfl (by decide) (by decide) (hQ _ hv_u3 hm_u3)
            · refine ST.lift (fun _ _ k => T_aload_n (v := .ref to) d_Dig_run_92 rfl (Or.inr ⟨_, rfl⟩) k) ?_
              refine ST.lift (fun _ _ k => T_iload d_Dig_run_93 rfl k) ?_
              refine ST.lift (fun _ _ k => T_aload_n (v := .ref 67) d_Dig_run_95 rfl (Or.inr ⟨_, rfl⟩) k) ?_
              refine S_getfield d_Dig_run_96 fg_Dig_7 (w67 _) rfl ?_
              refine ST.lift (fun _ _ k => T_iload d_Dig_run_99 rfl k) ?_
              refine ST.lift (fun _ _ k => T_iconst (v := nI 3) d_Dig_run_101 (by decide) k) ?_
              refine S_ishrN d_Dig_run_102 (by omega) (by omega) ?_
              refine S_laload d_Dig_run_103 a68 (vp_in_nI (by omega) (by omega)) (fun z29 => ?_)
              refine ST.lift (fun _ _ k => T_bipush (v := nI 56) d_Dig_run_104 (by decide) k) ?_
              refine ST.lift (fun _ _ k => T_bipush (v := nI 8) d_Dig_run_106 (by decide) k) ?_
              refine ST.lift (fun _ _ k => T_iload d_Dig_run_108 rfl k) ?_
              refine ST.lift (fun _ _ k => T_bipush (v := nI 7) d_Dig_run_110 (by decide) k) ?_
              refine S_iandN 3 d_Dig_run_112 (by omega) (by decide) (by decide) ?_
              refine S_imulN d_Dig_run_113 ?_
              refine S_isubN d_Dig_run_114 (by omega) ?_
              refine ST.lift (fun _ _ k => T_lushr d_Dig_run_115 k) (S_anyl fun z30 => ?_)
              refine ST.lift (fun _ _ k => T_l2i d_Dig_run_116 k) (S_anyi fun z31 => ?_)
              refine ST.lift (fun _ _ k => T_i2b d_Dig_run_117 k) (S_anyi fun z32 => ?_)
              refine S_bastore d_Dig_run_118 w_to a_to (vp_in_nI (by omega) (by omega)) ?_
              refine S_iincN (a := k22) (b := 1) (L' := [(4, .int (nI (k22 + 1))), (3, .int (nI (((k1 + 16) / 128) + 1))), (0, .ref 67), (1, .ref a), (2, .ref to)]) d_Dig_run_119 (by decide) rfl rfl rfl ?_
              refine ST.lift (fun _ _ k => T_goto (tgt := 85) d_Dig_run_122 rfl k) ?_
              exact ih24 (64 - (k22 + 1)) (by omega) (k22 + 1)  rfl (by omega)
        exact lp25 _ 0  rfl (by omega)
      · refine ST.lift (fun _ _ k => T_aload_n (v := .ref 67) d_Dig_run_37 rfl (Or.inr ⟨_, rfl⟩) k) ?_
        refine ST.lift (fun _ _ k => T_aload_n (v := .ref a) d_Dig_run_38 rfl (Or.inr ⟨_, rfl⟩) k) ?_
        refine ST.lift (fun _ _ k => T_iload d_Dig_run_39 rfl k) ?_
        refine ST.lift (fun _ _ k => T_sipush (v := nI 128) d_Dig_run_41 (by decide) k) ?_
        refine S_imulN d_Dig_run_44 ?_
        refine S_virtual (as := [.ref a, .int (nI (k2 * 128))]) (rest := []) (b := 67) d_Dig_run_45 rfl (jw_Dig_load.jo (by decide)) lm_Dig_31 ji_Dig_load js_Dig_load (w67 _) rfl rfl rfl (Nat.le_of_ble_eq_true rfl) (by decide) (by decide) (c_Dig_load_67 G u3 a ad ac aj y_a (k2 * 128) (by omega) hv_u3) (fun r u33 hq => ?_)
        obtain ⟨hr, hv34, hm35⟩ := hq
        rw [hr]
        clear hr r
        have hm36 := hm_u3.go hm35 (by intro i hi; simp only [List.mem_cons, List.not_mem_nil, or_false] at hi ⊢ <;> omega)
        show ST G mi_Dig_run 48 [(4, .int (nI k2)), (3, .int (nI (((k1 + 16) / 128) + 1))), (0, .ref 67), (1, .ref a), (2, .ref to)] [] u33 0 0 _
        refine ST.lift (fun _ _ k => T_iload d_Dig_run_48 rfl k) ?_
        refine ST.lift (fun _ _ k => T_iload_n d_Dig_run_50 rfl k) ?_
        refine ST.lift (fun _ _ k => T_iconst (v := nI 1) d_Dig_run_51 (by decide) k) ?_
        refine S_isubN d_Dig_run_52 (by omega) ?_
        have J72_41 : ST G mi_Dig_run 72 [(4, .int (nI k2)), (3, .int (nI (((k1 + 16) / 128) + 1))), (0, .ref 67), (1, .ref a), (2, .ref to)] [] u33 0 0 Q := by
          refine ST.lift (fun _ _ k => T_aload_n (v := .ref 67) d_Dig_run_72 rfl (Or.inr ⟨_, rfl⟩) k) ?_
          refine S_virtual (as := []) (rest := []) (b := 67) d_Dig_run_73 rfl (jw_Dig_mix.jo (by decide)) lm_Dig_37 ji_Dig_mix js_Dig_mix (w67 _) rfl rfl rfl (Nat.le_of_ble_eq_true rfl) (by decide) (by decide) (c_Dig_mix_67 G u33) (fun r v' hq => ?_)
          rw [hq.1, hq.2]
          clear hq r v'
          show ST G mi_Dig_run 76 [(4, .int (nI k2)), (3, .int (nI (((k1 + 16) / 128) + 1))), (0, .ref 67), (1, .ref a), (2, .ref to)] [] u33 0 0 _
          refine S_iincN (a := k2) (b := 1) (L' := [(4, .int (nI (k2 + 1))), (3, .int (nI (((k1 + 16) / 128) + 1))), (0, .ref 67), (1, .ref a), (2, .ref to)]) d_Dig_run_76 (by decide) rfl rfl rfl ?_
          refine ST.lift (fun _ _ k => T_goto (tgt := 31) d_Dig_run_79 rfl k) ?_
          exact ih5 ((((k1 + 16) / 128) + 1) - (k2 + 1)) (by omega) (k2 + 1)  u33 hv34 hm36 rfl (by omega)
        refine S_icmp_neN d_Dig_run_53 rfl (by omega) (by omega) (fun c37 => ?_) (fun c37 => ?_)
        · exact J72_41 
        · refine ST.lift (fun _ _ k => T_aload_n (v := .ref 67) d_Dig_run_56 rfl (Or.inr ⟨_, rfl⟩) k) ?_
          refine S_getfield d_Dig_run_57 fg_Dig_13 (w67 _) rfl ?_
          refine ST.lift (fun _ _ k => T_bipush (v := nI 15) d_Dig_run_60 (by decide) k) ?_
          refine ST.lift (fun _ _ k => T_ldc2 d_Dig_run_62 kJ_Dig_35 k) ?_
          refine ST.lift (fun _ _ k => T_aload_n (v := .ref a) d_Dig_run_65 rfl (Or.inr ⟨_, rfl⟩) k) ?_
          obtain ⟨k42, hk42, ek42⟩ := hv34.get (j := aj) (c := ac) y_a.2.2.2.2.1
          refine S_getfield d_Dig_run_66 fg_Dig_25 (y_a.1 _) rfl ?_
          refine S_topi (y := nI k42) (ek42) ?_
          refine ST.lift (fun _ _ k => T_i2l d_Dig_run_69 k) (S_anyl fun z43 => ?_)
          refine ST.lift (fun _ _ k => T_lmul d_Dig_run_70 k) (S_anyl fun z44 => ?_)
          refine S_lastore d_Dig_run_71 (by decide) a69 (vp_in_nI (by omega) (by omega)) ?_
          exact J72_41 
  exact lp6 _ 0  v hv hm rfl (by omega)

set_option maxRecDepth 100000 in
set_option maxHeartbeats 4000000 in
theorem c_Sc_carry (G : GX) (v : Nat → Int32) : CS G mi_Sc_carry [.ref 183] v (fun r v' => r = none ∧ v' = v) := by
  refine CS.of (by decide) (Nat.le_of_ble_eq_true rfl) ?_
  generalize hQe : (fun (r : Option Value) (v' : Nat → Int32) => r = none ∧ v' = v) = Q
  have hQ : Q none v := by rw [← hQe]; exact ⟨rfl, rfl⟩
  clear hQe
  show ST G mi_Sc_carry 0 [(0, .ref 183)] [] v 0 0 Q
  refine ST.lift (fun _ _ k => T_lconst (v := 0) d_Sc_carry_0 (by decide) k) ?_
  refine ST.lift (fun _ _ k => T_lstore_n (L' := [(1, .long 0), (0, .ref 183)]) d_Sc_carry_1 (by decide) rfl k) ?_
  refine ST.lift (fun _ _ k => T_iconst (v := nI 0) d_Sc_carry_2 (by decide) k) ?_
  refine ST.lift (fun _ _ k => T_istore_n (L' := [(3, .int (nI 0)), (1, .long 0), (0, .ref 183)]) d_Sc_carry_3 (by decide) rfl k) ?_
  have lp5 : ∀ (n3 k1 : Nat) (z2 : Int64), 19 - k1 = n3 → 0 ≤ k1 ∧ k1 ≤ 0 + 19 → ST G mi_Sc_carry 4 [(3, .int (nI k1)), (1, .long z2), (0, .ref 183)] [] v 0 0 Q := by
    intro n3
    induction n3 using Nat.strongRecOn with
    | _ n3 ih4 =>
      intro k1 z2 h6 h7
      refine ST.lift (fun _ _ k => T_iload_n d_Sc_carry_4 rfl k) ?_
      refine ST.lift (fun _ _ k => T_bipush (v := nI 19) d_Sc_carry_5 (by decide) k) ?_
      refine S_icmp_geN d_Sc_carry_7 rfl (by omega) (by omega) (fun c8 => ?_) (fun c8 => ?_)
      · refine ST.lift (fun _ _ k => T_aload_n (v := .ref 183) d_Sc_carry_44 rfl (Or.inr ⟨_, rfl⟩) k) ?_
        refine S_getfield d_Sc_carry_45 fg_Sc_9 (w183 _) rfl ?_
        refine ST.lift (fun _ _ k => T_bipush (v := nI 19) d_Sc_carry_48 (by decide) k) ?_
        refine ST.lift (fun _ _ k => T_aload_n (v := .ref 183) d_Sc_carry_50 rfl (Or.inr ⟨_, rfl⟩) k) ?_
        refine S_getfield d_Sc_carry_51 fg_Sc_13 (w183 _) rfl ?_
        refine ST.lift (fun _ _ k => T_bipush (v := nI 19) d_Sc_carry_54 (by decide) k) ?_
        refine S_laload d_Sc_carry_56 a185 (vp_in_nI (by omega) (by omega)) (fun z13 => ?_)
        refine ST.lift (fun _ _ k => T_lload_n d_Sc_carry_57 rfl k) ?_
        refine ST.lift (fun _ _ k => T_ladd d_Sc_carry_58 k) (S_anyl fun z14 => ?_)
        refine S_lastore d_Sc_carry_59 (by decide) a184 (vp_in_nI (by omega) (by omega)) ?_
        exact S_vret d_Sc_carry_60 rfl (by decide) (by decide) hQ
      · refine ST.lift (fun _ _ k => T_aload_n (v := .ref 183) d_Sc_carry_10 rfl (Or.inr ⟨_, rfl⟩) k) ?_
        refine S_getfield d_Sc_carry_11 fg_Sc_13 (w183 _) rfl ?_
        refine ST.lift (fun _ _ k => T_iload_n d_Sc_carry_14 rfl k) ?_
        refine S_laload d_Sc_carry_15 a185 (vp_in_nI (by omega) (by omega)) (fun z15 => ?_)
        refine ST.lift (fun _ _ k => T_lload_n d_Sc_carry_16 rfl k) ?_
        refine ST.lift (fun _ _ k => T_ladd d_Sc_carry_17 k) (S_anyl fun z16 => ?_)
        refine ST.lift (fun _ _ k => T_lstore (L' := [(4, .long z16), (3, .int (nI k1)), (1, .long z2), (0, .ref 183)]) d_Sc_carry_18 (by decide) rfl k) ?_
        refine ST.lift (fun _ _ k => T_lload d_Sc_carry_20 rfl k) ?_
        refine ST.lift (fun _ _ k => T_bipush (v := nI 28) d_Sc_carry_22 (by decide) k) ?_
        refine ST.lift (fun _ _ k => T_lshr d_Sc_carry_24 k) (S_anyl fun z17 => ?_)
        refine ST.lift (fun _ _ k => T_lstore_n (L' := [(1, .long z17), (4, .long z16), (3, .int (nI k1)), (0, .ref 183)]) d_Sc_carry_25 (by decide) rfl k) ?_
        refine ST.lift (fun _ _ k => T_aload_n (v := .ref 183) d_Sc_carry_26 rfl (Or.inr ⟨_, rfl⟩) k) ?_
        refine S_getfield d_Sc_carry_27 fg_Sc_9 (w183 _) rfl ?_
        refine ST.lift (fun _ _ k => T_iload_n d_Sc_carry_30 rfl k) ?_
        refine ST.lift (fun _ _ k => T_lload d_Sc_carry_31 rfl k) ?_
        refine ST.lift (fun _ _ k => T_ldc2 d_Sc_carry_33 kJ_Sc_58 k) ?_
        refine ST.lift (fun _ _ k => T_land d_Sc_carry_36 k) (S_anyl fun z18 => ?_)
        refine S_lastore d_Sc_carry_37 (by decide) a184 (vp_in_nI (by omega) (by omega)) ?_
        refine S_iincN (a := k1) (b := 1) (L' := [(3, .int (nI (k1 + 1))), (1, .long z17), (4, .long z16), (0, .ref 183)]) d_Sc_carry_38 (by decide) rfl rfl rfl ?_
        refine ST.lift (fun _ _ k => T_goto (tgt := 4) d_Sc_carry_41 rfl k) ?_
        refine S_pick [0, 1, 3] rfl ?_
        exact ih4 (19 - (k1 + 1)) (by omega) (k1 + 1) z17 rfl (by omega)
  exact lp5 _ 0 0 rfl (by omega)
set_option maxRecDepth 100000 in
set_option maxHeartbeats 4000000 in
theorem c_Sc_load (G : GX) (v : Nat → Int32) (src m : Nat) (w_src : K0 ≤ src) (a_src : aB src m) (l_src : m ≤ 2000) (n : Nat) (b_n : n ≤ 64 ∧ n ≤ m) : CS G mi_Sc_load [.ref 183, .ref src, .int (nI n)] v (fun r v' => r = none ∧ v' = v) := by
  refine CS.of (by decide) (Nat.le_of_ble_eq_true rfl) ?_
  generalize hQe : (fun (r : Option Value) (v' : Nat → Int32) => r = none ∧ v' = v) = Q
  have hQ : Q none v := by rw [← hQe]; exact ⟨rfl, rfl⟩
  clear hQe
  show ST G mi_Sc_load 0 [(0, .ref 183), (1, .ref src), (2, .int (nI n))] [] v 0 0 Q
  refine ST.lift (fun _ _ k => T_iconst (v := nI 0) d_Sc_load_0 (by decide) k) ?_
  refine ST.lift (fun _ _ k => T_istore_n (L' := [(3, .int (nI 0)), (0, .ref 183), (1, .ref src), (2, .int (nI n))]) d_Sc_load_1 (by decide) rfl k) ?_
  refine ST.lift (fun _ _ k => T_iload_n d_Sc_load_2 rfl k) ?_
  refine ST.lift (fun _ _ k => T_bipush (v := nI 20) d_Sc_load_3 (by decide) k) ?_
  refine S_icmp_geN d_Sc_load_5 rfl (by omega) (by omega) (fun c => by first | exact absurd c (by omega) | exact c.elim | exact absurd c (by decide) | exact absurd (by assumption) c | exact absurd c (by assumption)) (fun _ => ?_)
  refine ST.lift (fun _ _ k => T_aload_n (v := .ref 183) d_Sc_load_8 rfl (Or.inr ⟨_, rfl⟩) k) ?_
  refine S_getfield d_Sc_load_9 fg_Sc_13 (w183 _) rfl ?_
  refine ST.lift (fun _ _ k => T_iload_n d_Sc_load_12 rfl k) ?_
  refine ST.lift (fun _ _ k => T_lconst (v := 0) d_Sc_load_13 (by decide) k) ?_
  refine S_lastore d_Sc_load_14 (by decide) a185 (vp_in_nI (by omega) (by omega)) ?_
  refine S_iincN (a := 0) (b := 1) (L' := [(3, .int (nI 1)), (0, .ref 183), (1, .ref src), (2, .int (nI n))]) d_Sc_load_15 (by decide) rfl rfl rfl ?_
  refine ST.lift (fun _ _ k => T_goto (tgt := 2) d_Sc_load_18 rfl k) ?_
  refine ST.lift (fun _ _ k => T_iload_n d_Sc_load_2 rfl k) ?_
  refine ST.lift (fun _ _ k => T_bipush (v := nI 20) d_Sc_load_3 (by decide) k) ?_
  refine S_icmp_geN d_Sc_load_5 rfl (by omega) (by omega) (fun c => by first | exact absurd c (by omega) | exact c.elim | exact absurd c (by decide) | exact absurd (by assumption) c | exact absurd c (by assumption)) (fun _ => ?_)
  refine ST.lift (fun _ _ k => T_aload_n (v := .ref 183) d_Sc_load_8 rfl (Or.inr ⟨_, rfl⟩) k) ?_
  refine S_getfield d_Sc_load_9 fg_Sc_13 (w183 _) rfl ?_
  refine ST.lift (fun _ _ k => T_iload_n d_Sc_load_12 rfl k) ?_
  refine ST.lift (fun _ _ k => T_lconst (v := 0) d_Sc_load_13 (by decide) k) ?_
  refine S_lastore d_Sc_load_14 (by decide) a185 (vp_in_nI (by omega) (by omega)) ?_
  refine S_iincN (a := 1) (b := 1) (L' := [(3, .int (nI 2)), (0, .ref 183), (1, .ref src), (2, .int (nI n))]) d_Sc_load_15 (by decide) rfl rfl rfl ?_
  refine ST.lift (fun _ _ k => T_goto (tgt := 2) d_Sc_load_18 rfl k) ?_
  refine ST.lift (fun _ _ k => T_iload_n d_Sc_load_2 rfl k) ?_
  refine ST.lift (fun _ _ k => T_bipush (v := nI 20) d_Sc_load_3 (by decide) k) ?_
  refine S_icmp_geN d_Sc_load_5 rfl (by omega) (by omega) (fun c => by first | exact absurd c (by omega) | exact c.elim | exact absurd c (by decide) | exact absurd (by assumption) c | exact absurd c (by assumption)) (fun _ => ?_)
  refine ST.lift (fun _ _ k => T_aload_n (v := .ref 183) d_Sc_load_8 rfl (Or.inr ⟨_, rfl⟩) k) ?_
  refine S_getfield d_Sc_load_9 fg_Sc_13 (w183 _) rfl ?_
  refine ST.lift (fun _ _ k => T_iload_n d_Sc_load_12 rfl k) ?_
  refine ST.lift (fun _ _ k => T_lconst (v := 0) d_Sc_load_13 (by decide) k) ?_
  refine S_lastore d_Sc_load_14 (by decide) a185 (vp_in_nI (by omega) (by omega)) ?_
  refine S_iincN (a := 2) (b := 1) (L' := [(3, .int (nI 3)), (0, .ref 183), (1, .ref src), (2, .int (nI n))]) d_Sc_load_15 (by decide) rfl rfl rfl ?_
  refine ST.lift (fun _ _ k => T_goto (tgt := 2) d_Sc_load_18 rfl k) ?_
  refine ST.lift (fun _ _ k => T_iload_n d_Sc_load_2 rfl k) ?_
  refine ST.lift (fun _ _ k => T_bipush (v := nI 20) d_Sc_load_3 (by decide) k) ?_
  refine S_icmp_geN d_Sc_load_5 rfl (by omega) (by omega) (fun c => by first | exact absurd c (by omega) | exact c.elim | exact absurd c (by decide) | exact absurd (by assumption) c | exact absurd c (by assumption)) (fun _ => ?_)
  refine ST.lift (fun _ _ k => T_aload_n (v := .ref 183) d_Sc_load_8 rfl (Or.inr ⟨_, rfl⟩) k) ?_
  refine S_getfield d_Sc_load_9 fg_Sc_13 (w183 _) rfl ?_
  refine ST.lift (fun _ _ k => T_iload_n d_Sc_load_12 rfl k) ?_
  refine ST.lift (fun _ _ k => T_lconst (v := 0) d_Sc_load_13 (by decide) k) ?_
  refine S_lastore d_Sc_load_14 (by decide) a185 (vp_in_nI (by omega) (by omega)) ?_
  refine S_iincN (a := 3) (b := 1) (L' := [(3, .int (nI 4)), (0, .ref 183), (1, .ref src), (2, .int (nI n))]) d_Sc_load_15 (by decide) rfl rfl rfl ?_
  refine ST.lift (fun _ _ k => T_goto (tgt := 2) d_Sc_load_18 rfl k) ?_
  refine ST.lift (fun _ _ k => T_iload_n d_Sc_load_2 rfl k) ?_
  refine ST.lift (fun _ _ k => T_bipush (v := nI 20) d_Sc_load_3 (by decide) k) ?_
  refine S_icmp_geN d_Sc_load_5 rfl (by omega) (by omega) (fun c => by first | exact absurd c (by omega) | exact c.elim | exact absurd c (by decide) | exact absurd (by assumption) c | exact absurd c (by assumption)) (fun _ => ?_)
  refine ST.lift (fun _ _ k => T_aload_n (v := .ref 183) d_Sc_load_8 rfl (Or.inr ⟨_, rfl⟩) k) ?_
  refine S_getfield d_Sc_load_9 fg_Sc_13 (w183 _) rfl ?_
  refine ST.lift (fun _ _ k => T_iload_n d_Sc_load_12 rfl k) ?_
  refine ST.lift (fun _ _ k => T_lconst (v := 0) d_Sc_load_13 (by decide) k) ?_
  refine S_lastore d_Sc_load_14 (by decide) a185 (vp_in_nI (by omega) (by omega)) ?_
  refine S_iincN (a := 4) (b := 1) (L' := [(3, .int (nI 5)), (0, .ref 183), (1, .ref src), (2, .int (nI n))]) d_Sc_load_15 (by decide) rfl rfl rfl ?_
  refine ST.lift (fun _ _ k => T_goto (tgt := 2) d_Sc_load_18 rfl k) ?_
  refine ST.lift (fun _ _ k => T_iload_n d_Sc_load_2 rfl k) ?_
  refine ST.lift (fun _ _ k => T_bipush (v := nI 20) d_Sc_load_3 (by decide) k) ?_
  refine S_icmp_geN d_Sc_load_5 rfl (by omega) (by omega) (fun c => by first | exact absurd c (by omega) | exact c.elim | exact absurd c (by decide) | exact absurd (by assumption) c | exact absurd c (by assumption)) (fun _ => ?_)
  refine ST.lift (fun _ _ k => T_aload_n (v := .ref 183) d_Sc_load_8 rfl (Or.inr ⟨_, rfl⟩) k) ?_
  refine S_getfield d_Sc_load_9 fg_Sc_13 (w183 _) rfl ?_
  refine ST.lift (fun _ _ k => T_iload_n d_Sc_load_12 rfl k) ?_
  refine ST.lift (fun _ _ k => T_lconst (v := 0) d_Sc_load_13 (by decide) k) ?_
  refine S_lastore d_Sc_load_14 (by decide) a185 (vp_in_nI (by omega) (by omega)) ?_
  refine S_iincN (a := 5) (b := 1) (L' := [(3, .int (nI 6)), (0, .ref 183), (1, .ref src), (2, .int (nI n))]) d_Sc_load_15 (by decide) rfl rfl rfl ?_
  refine ST.lift (fun _ _ k => T_goto (tgt := 2) d_Sc_load_18 rfl k) ?_
  refine ST.lift (fun _ _ k => T_iload_n d_Sc_load_2 rfl k) ?_
  refine ST.lift (fun _ _ k => T_bipush (v := nI 20) d_Sc_load_3 (by decide) k) ?_
  refine S_icmp_geN d_Sc_load_5 rfl (by omega) (by omega) (fun c => by first | exact absurd c (by omega) | exact c.elim | exact absurd c (by decide) | exact absurd (by assumption) c | exact absurd c (by assumption)) (fun _ => ?_)
  refine ST.lift (fun _ _ k => T_aload_n (v := .ref 183) d_Sc_load_8 rfl (Or.inr ⟨_, rfl⟩) k) ?_
  refine S_getfield d_Sc_load_9 fg_Sc_13 (w183 _) rfl ?_
  refine ST.lift (fun _ _ k => T_iload_n d_Sc_load_12 rfl k) ?_
  refine ST.lift (fun _ _ k => T_lconst (v := 0) d_Sc_load_13 (by decide) k) ?_
  refine S_lastore d_Sc_load_14 (by decide) a185 (vp_in_nI (by omega) (by omega)) ?_
  refine S_iincN (a := 6) (b := 1) (L' := [(3, .int (nI 7)), (0, .ref 183), (1, .ref src), (2, .int (nI n))]) d_Sc_load_15 (by decide) rfl rfl rfl ?_
  refine ST.lift (fun _ _ k => T_goto (tgt := 2) d_Sc_load_18 rfl k) ?_
  refine ST.lift (fun _ _ k => T_iload_n d_Sc_load_2 rfl k) ?_
  refine ST.lift (fun _ _ k => T_bipush (v := nI 20) d_Sc_load_3 (by decide) k) ?_
  refine S_icmp_geN d_Sc_load_5 rfl (by omega) (by omega) (fun c => by first | exact absurd c (by omega) | exact c.elim | exact absurd c (by decide) | exact absurd (by assumption) c | exact absurd c (by assumption)) (fun _ => ?_)
  refine ST.lift (fun _ _ k => T_aload_n (v := .ref 183) d_Sc_load_8 rfl (Or.inr ⟨_, rfl⟩) k) ?_
  refine S_getfield d_Sc_load_9 fg_Sc_13 (w183 _) rfl ?_
  refine ST.lift (fun _ _ k => T_iload_n d_Sc_load_12 rfl k) ?_
  refine ST.lift (fun _ _ k => T_lconst (v := 0) d_Sc_load_13 (by decide) k) ?_
  refine S_lastore d_Sc_load_14 (by decide) a185 (vp_in_nI (by omega) (by omega)) ?_
  refine S_iincN (a := 7) (b := 1) (L' := [(3, .int (nI 8)), (0, .ref 183), (1, .ref src), (2, .int (nI n))]) d_Sc_load_15 (by decide) rfl rfl rfl ?_
  refine ST.lift (fun _ _ k => T_goto (tgt := 2) d_Sc_load_18 rfl k) ?_
  refine ST.lift (fun _ _ k => T_iload_n d_Sc_load_2 rfl k) ?_
  refine ST.lift (fun _ _ k => T_bipush (v := nI 20) d_Sc_load_3 (by decide) k) ?_
  refine S_icmp_geN d_Sc_load_5 rfl (by omega) (by omega) (fun c => by first | exact absurd c (by omega) | exact c.elim | exact absurd c (by decide) | exact absurd (by assumption) c | exact absurd c (by assumption)) (fun _ => ?_)
  refine ST.lift (fun _ _ k => T_aload_n (v := .ref 183) d_Sc_load_8 rfl (Or.inr ⟨_, rfl⟩) k) ?_
  refine S_getfield d_Sc_load_9 fg_Sc_13 (w183 _) rfl ?_
  refine ST.lift (fun _ _ k => T_iload_n d_Sc_load_12 rfl k) ?_
  refine ST.lift (fun _ _ k => T_lconst (v := 0) d_Sc_load_13 (by decide) k) ?_
  refine S_lastore d_Sc_load_14 (by decide) a185 (vp_in_nI (by omega) (by omega)) ?_
  refine S_iincN (a := 8) (b := 1) (L' := [(3, .int (nI 9)), (0, .ref 183), (1, .ref src), (2, .int (nI n))]) d_Sc_load_15 (by decide) rfl rfl rfl ?_
  refine ST.lift (fun _ _ k => T_goto (tgt := 2) d_Sc_load_18 rfl k) ?_
  refine ST.lift (fun _ _ k => T_iload_n d_Sc_load_2 rfl k) ?_
  refine ST.lift (fun _ _ k => T_bipush (v := nI 20) d_Sc_load_3 (by decide) k) ?_
  refine S_icmp_geN d_Sc_load_5 rfl (by omega) (by omega) (fun c => by first | exact absurd c (by omega) | exact c.elim | exact absurd c (by decide) | exact absurd (by assumption) c | exact absurd c (by assumption)) (fun _ => ?_)
  refine ST.lift (fun _ _ k => T_aload_n (v := .ref 183) d_Sc_load_8 rfl (Or.inr ⟨_, rfl⟩) k) ?_
  refine S_getfield d_Sc_load_9 fg_Sc_13 (w183 _) rfl ?_
  refine ST.lift (fun _ _ k => T_iload_n d_Sc_load_12 rfl k) ?_
  refine ST.lift (fun _ _ k => T_lconst (v := 0) d_Sc_load_13 (by decide) k) ?_
  refine S_lastore d_Sc_load_14 (by decide) a185 (vp_in_nI (by omega) (by omega)) ?_
  refine S_iincN (a := 9) (b := 1) (L' := [(3, .int (nI 10)), (0, .ref 183), (1, .ref src), (2, .int (nI n))]) d_Sc_load_15 (by decide) rfl rfl rfl ?_
  refine ST.lift (fun _ _ k => T_goto (tgt := 2) d_Sc_load_18 rfl k) ?_
  refine ST.lift (fun _ _ k => T_iload_n d_Sc_load_2 rfl k) ?_
  refine ST.lift (fun _ _ k => T_bipush (v := nI 20) d_Sc_load_3 (by decide) k) ?_
  refine S_icmp_geN d_Sc_load_5 rfl (by omega) (by omega) (fun c => by first | exact absurd c (by omega) | exact c.elim | exact absurd c (by decide) | exact absurd (by assumption) c | exact absurd c (by assumption)) (fun _ => ?_)
  refine ST.lift (fun _ _ k => T_aload_n (v := .ref 183) d_Sc_load_8 rfl (Or.inr ⟨_, rfl⟩) k) ?_
  refine S_getfield d_Sc_load_9 fg_Sc_13 (w183 _) rfl ?_
  refine ST.lift (fun _ _ k => T_iload_n d_Sc_load_12 rfl k) ?_
  refine ST.lift (fun _ _ k => T_lconst (v := 0) d_Sc_load_13 (by decide) k) ?_
  refine S_lastore d_Sc_load_14 (by decide) a185 (vp_in_nI (by omega) (by omega)) ?_
  refine S_iincN (a := 10) (b := 1) (L' := [(3, .int (nI 11)), (0, .ref 183), (1, .ref src), (2, .int (nI n))]) d_Sc_load_15 (by decide) rfl rfl rfl ?_
  refine ST.lift (fun _ _ k => T_goto (tgt := 2) d_Sc_load_18 rfl k) ?_
  refine ST.lift (fun _ _ k => T_iload_n d_Sc_load_2 rfl k) ?_
  refine ST.lift (fun _ _ k => T_bipush (v := nI 20) d_Sc_load_3 (by decide) k) ?_
  refine S_icmp_geN d_Sc_load_5 rfl (by omega) (by omega) (fun c => by first | exact absurd c (by omega) | exact c.elim | exact absurd c (by decide) | exact absurd (by assumption) c | exact absurd c (by assumption)) (fun _ => ?_)
  refine ST.lift (fun _ _ k => T_aload_n (v := .ref 183) d_Sc_load_8 rfl (Or.inr ⟨_, rfl⟩) k) ?_
  refine S_getfield d_Sc_load_9 fg_Sc_13 (w183 _) rfl ?_
  refine ST.lift (fun _ _ k => T_iload_n d_Sc_load_12 rfl k) ?_
  refine ST.lift (fun _ _ k => T_lconst (v := 0) d_Sc_load_13 (by decide) k) ?_
  refine S_lastore d_Sc_load_14 (by decide) a185 (vp_in_nI (by omega) (by omega)) ?_
  refine S_iincN (a := 11) (b := 1) (L' := [(3, .int (nI 12)), (0, .ref 183), (1, .ref src), (2, .int (nI n))]) d_Sc_load_15 (by decide) rfl rfl rfl ?_
  refine ST.lift (fun _ _ k => T_goto (tgt := 2) d_Sc_load_18 rfl k) ?_
  refine ST.lift (fun _ _ k => T_iload_n d_Sc_load_2 rfl k) ?_
  refine ST.lift (fun _ _ k => T_bipush (v := nI 20) d_Sc_load_3 (by decide) k) ?_
  refine S_icmp_geN d_Sc_load_5 rfl (by omega) (by omega) (fun c => by first | exact absurd c (by omega) | exact c.elim | exact absurd c (by decide) | exact absurd (by assumption) c | exact absurd c (by assumption)) (fun _ => ?_)
  refine ST.lift (fun _ _ k => T_aload_n (v := .ref 183) d_Sc_load_8 rfl (Or.inr ⟨_, rfl⟩) k) ?_
  refine S_getfield d_Sc_load_9 fg_Sc_13 (w183 _) rfl ?_
  refine ST.lift (fun _ _ k => T_iload_n d_Sc_load_12 rfl k) ?_
  refine ST.lift (fun _ _ k => T_lconst (v := 0) d_Sc_load_13 (by decide) k) ?_
  refine S_lastore d_Sc_load_14 (by decide) a185 (vp_in_nI (by omega) (by omega)) ?_
  refine S_iincN (a := 12) (b := 1) (L' := [(3, .int (nI 13)), (0, .ref 183), (1, .ref src), (2, .int (nI n))]) d_Sc_load_15 (by decide) rfl rfl rfl ?_
  refine ST.lift (fun _ _ k => T_goto (tgt := 2) d_Sc_load_18 rfl k) ?_
  refine ST.lift (fun _ _ k => T_iload_n d_Sc_load_2 rfl k) ?_
  refine ST.lift (fun _ _ k => T_bipush (v := nI 20) d_Sc_load_3 (by decide) k) ?_
  refine S_icmp_geN d_Sc_load_5 rfl (by omega) (by omega) (fun c => by first | exact absurd c (by omega) | exact c.elim | exact absurd c (by decide) | exact absurd (by assumption) c | exact absurd c (by assumption)) (fun _ => ?_)
  refine ST.lift (fun _ _ k => T_aload_n (v := .ref 183) d_Sc_load_8 rfl (Or.inr ⟨_, rfl⟩) k) ?_
  refine S_getfield d_Sc_load_9 fg_Sc_13 (w183 _) rfl ?_
  refine ST.lift (fun _ _ k => T_iload_n d_Sc_load_12 rfl k) ?_
  refine ST.lift (fun _ _ k => T_lconst (v := 0) d_Sc_load_13 (by decide) k) ?_
  refine S_lastore d_Sc_load_14 (by decide) a185 (vp_in_nI (by omega) (by omega)) ?_
  refine S_iincN (a := 13) (b := 1) (L' := [(3, .int (nI 14)), (0, .ref 183), (1, .ref src), (2, .int (nI n))]) d_Sc_load_15 (by decide) rfl rfl rfl ?_
  refine ST.lift (fun _ _ k => T_goto (tgt := 2) d_Sc_load_18 rfl k) ?_
  refine ST.lift (fun _ _ k => T_iload_n d_Sc_load_2 rfl k) ?_
  refine ST.lift (fun _ _ k => T_bipush (v := nI 20) d_Sc_load_3 (by decide) k) ?_
  refine S_icmp_geN d_Sc_load_5 rfl (by omega) (by omega) (fun c => by first | exact absurd c (by omega) | exact c.elim | exact absurd c (by decide) | exact absurd (by assumption) c | exact absurd c (by assumption)) (fun _ => ?_)
  refine ST.lift (fun _ _ k => T_aload_n (v := .ref 183) d_Sc_load_8 rfl (Or.inr ⟨_, rfl⟩) k) ?_
  refine S_getfield d_Sc_load_9 fg_Sc_13 (w183 _) rfl ?_
  refine ST.lift (fun _ _ k => T_iload_n d_Sc_load_12 rfl k) ?_
  refine ST.lift (fun _ _ k => T_lconst (v := 0) d_Sc_load_13 (by decide) k) ?_
  refine S_lastore d_Sc_load_14 (by decide) a185 (vp_in_nI (by omega) (by omega)) ?_
  refine S_iincN (a := 14) (b := 1) (L' := [(3, .int (nI 15)), (0, .ref 183), (1, .ref src), (2, .int (nI n))]) d_Sc_load_15 (by decide) rfl rfl rfl ?_
  refine ST.lift (fun _ _ k => T_goto (tgt := 2) d_Sc_load_18 rfl k) ?_
  refine ST.lift (fun _ _ k => T_iload_n d_Sc_load_2 rfl k) ?_
  refine ST.lift (fun _ _ k => T_bipush (v := nI 20) d_Sc_load_3 (by decide) k) ?_
  refine S_icmp_geN d_Sc_load_5 rfl (by omega) (by omega) (fun c => by first | exact absurd c (by omega) | exact c.elim | exact absurd c (by decide) | exact absurd (by assumption) c | exact absurd c (by assumption)) (fun _ => ?_)
  refine ST.lift (fun _ _ k => T_aload_n (v := .ref 183) d_Sc_load_8 rfl (Or.inr ⟨_, rfl⟩) k) ?_
  refine S_getfield d_Sc_load_9 fg_Sc_13 (w183 _) rfl ?_
  refine ST.lift (fun _ _ k => T_iload_n d_Sc_load_12 rfl k) ?_
  refine ST.lift (fun _ _ k => T_lconst (v := 0) d_Sc_load_13 (by decide) k) ?_
  refine S_lastore d_Sc_load_14 (by decide) a185 (vp_in_nI (by omega) (by omega)) ?_
  refine S_iincN (a := 15) (b := 1) (L' := [(3, .int (nI 16)), (0, .ref 183), (1, .ref src), (2, .int (nI n))]) d_Sc_load_15 (by decide) rfl rfl rfl ?_
  refine ST.lift (fun _ _ k => T_goto (tgt := 2) d_Sc_load_18 rfl k) ?_
  refine ST.lift (fun _ _ k => T_iload_n d_Sc_load_2 rfl k) ?_
  refine ST.lift (fun _ _ k => T_bipush (v := nI 20) d_Sc_load_3 (by decide) k) ?_
  refine S_icmp_geN d_Sc_load_5 rfl (by omega) (by omega) (fun c => by first | exact absurd c (by omega) | exact c.elim | exact absurd c (by decide) | exact absurd (by assumption) c | exact absurd c (by assumption)) (fun _ => ?_)
  refine ST.lift (fun _ _ k => T_aload_n (v := .ref 183) d_Sc_load_8 rfl (Or.inr ⟨_, rfl⟩) k) ?_
  refine S_getfield d_Sc_load_9 fg_Sc_13 (w183 _) rfl ?_
  refine ST.lift (fun _ _ k => T_iload_n d_Sc_load_12 rfl k) ?_
  refine ST.lift (fun _ _ k => T_lconst (v := 0) d_Sc_load_13 (by decide) k) ?_
  refine S_lastore d_Sc_load_14 (by decide) a185 (vp_in_nI (by omega) (by omega)) ?_
  refine S_iincN (a := 16) (b := 1) (L' := [(3, .int (nI 17)), (0, .ref 183), (1, .ref src), (2, .int (nI n))]) d_Sc_load_15 (by decide) rfl rfl rfl ?_
  refine ST.lift (fun _ _ k => T_goto (tgt := 2) d_Sc_load_18 rfl k) ?_
  refine ST.lift (fun _ _ k => T_iload_n d_Sc_load_2 rfl k) ?_
  refine ST.lift (fun _ _ k => T_bipush (v := nI 20) d_Sc_load_3 (by decide) k) ?_
  refine S_icmp_geN d_Sc_load_5 rfl (by omega) (by omega) (fun c => by first | exact absurd c (by omega) | exact c.elim | exact absurd c (by decide) | exact absurd (by assumption) c | exact absurd c (by assumption)) (fun _ => ?_)
  refine ST.lift (fun _ _ k => T_aload_n (v := .ref 183) d_Sc_load_8 rfl (Or.inr ⟨_, rfl⟩) k) ?_
  refine S_getfield d_Sc_load_9 fg_Sc_13 (w183 _) rfl ?_
  refine ST.lift (fun _ _ k => T_iload_n d_Sc_load_12 rfl k) ?_
  refine ST.lift (fun _ _ k => T_lconst (v := 0) d_Sc_load_13 (by decide) k) ?_
  refine S_lastore d_Sc_load_14 (by decide) a185 (vp_in_nI (by omega) (by omega)) ?_
  refine S_iincN (a := 17) (b := 1) (L' := [(3, .int (nI 18)), (0, .ref 183), (1, .ref src), (2, .int (nI n))]) d_Sc_load_15 (by decide) rfl rfl rfl ?_
  refine ST.lift (fun _ _ k => T_goto (tgt := 2) d_Sc_load_18 rfl k) ?_
  refine ST.lift (fun _ _ k => T_iload_n d_Sc_load_2 rfl k) ?_
  refine ST.lift (fun _ _ k => T_bipush (v := nI 20) d_Sc_load_3 (by decide) k) ?_
  refine S_icmp_geN d_Sc_load_5 rfl (by omega) (by omega) (fun c => by first | exact absurd c (by omega) | exact c.elim | exact absurd c (by decide) | exact absurd (by assumption) c | exact absurd c (by assumption)) (fun _ => ?_)
  refine ST.lift (fun _ _ k => T_aload_n (v := .ref 183) d_Sc_load_8 rfl (Or.inr ⟨_, rfl⟩) k) ?_
  refine S_getfield d_Sc_load_9 fg_Sc_13 (w183 _) rfl ?_
  refine ST.lift (fun _ _ k => T_iload_n d_Sc_load_12 rfl k) ?_
  refine ST.lift (fun _ _ k => T_lconst (v := 0) d_Sc_load_13 (by decide) k) ?_
  refine S_lastore d_Sc_load_14 (by decide) a185 (vp_in_nI (by omega) (by omega)) ?_
  refine S_iincN (a := 18) (b := 1) (L' := [(3, .int (nI 19)), (0, .ref 183), (1, .ref src), (2, .int (nI n))]) d_Sc_load_15 (by decide) rfl rfl rfl ?_
  refine ST.lift (fun _ _ k => T_goto (tgt := 2) d_Sc_load_18 rfl k) ?_
  refine ST.lift (fun _ _ k => T_iload_n d_Sc_load_2 rfl k) ?_
  refine ST.lift (fun _ _ k => T_bipush (v := nI 20) d_Sc_load_3 (by decide) k) ?_
  refine S_icmp_geN d_Sc_load_5 rfl (by omega) (by omega) (fun c => by first | exact absurd c (by omega) | exact c.elim | exact absurd c (by decide) | exact absurd (by assumption) c | exact absurd c (by assumption)) (fun _ => ?_)
  refine ST.lift (fun _ _ k => T_aload_n (v := .ref 183) d_Sc_load_8 rfl (Or.inr ⟨_, rfl⟩) k) ?_
  refine S_getfield d_Sc_load_9 fg_Sc_13 (w183 _) rfl ?_
  refine ST.lift (fun _ _ k => T_iload_n d_Sc_load_12 rfl k) ?_
  refine ST.lift (fun _ _ k => T_lconst (v := 0) d_Sc_load_13 (by decide) k) ?_
  refine S_lastore d_Sc_load_14 (by decide) a185 (vp_in_nI (by omega) (by omega)) ?_
  refine S_iincN (a := 19) (b := 1) (L' := [(3, .int (nI 20)), (0, .ref 183), (1, .ref src), (2, .int (nI n))]) d_Sc_load_15 (by decide) rfl rfl rfl ?_
  refine ST.lift (fun _ _ k => T_goto (tgt := 2) d_Sc_load_18 rfl k) ?_
  refine ST.lift (fun _ _ k => T_iload_n d_Sc_load_2 rfl k) ?_
  refine ST.lift (fun _ _ k => T_bipush (v := nI 20) d_Sc_load_3 (by decide) k) ?_
  refine S_icmp_geN d_Sc_load_5 rfl (by omega) (by omega) (fun _ => ?_) (fun c => by first | exact absurd c (by omega) | exact c.elim | exact absurd c (by decide) | exact absurd (by assumption) c | exact absurd c (by assumption))
  refine ST.lift (fun _ _ k => T_iconst (v := nI 0) d_Sc_load_21 (by decide) k) ?_
  refine ST.lift (fun _ _ k => T_istore_n (L' := [(3, .int (nI 0)), (0, .ref 183), (1, .ref src), (2, .int (nI n))]) d_Sc_load_22 (by decide) rfl k) ?_
  have lp4 : ∀ (n2 k1 : Nat), n - k1 = n2 → 0 ≤ k1 ∧ k1 ≤ 0 + n → ST G mi_Sc_load 23 [(3, .int (nI k1)), (0, .ref 183), (1, .ref src), (2, .int (nI n))] [] v 0 0 Q := by
    intro n2
    induction n2 using Nat.strongRecOn with
    | _ n2 ih3 =>
      intro k1 h5 h6
      refine ST.lift (fun _ _ k => T_iload_n d_Sc_load_23 rfl k) ?_
      refine ST.lift (fun _ _ k => T_iload_n d_Sc_load_24 rfl k) ?_
      refine S_icmp_geN d_Sc_load_25 rfl (by omega) (by omega) (fun c7 => ?_) (fun c7 => ?_)
      · refine ST.lift (fun _ _ k => T_aload_n (v := .ref 183) d_Sc_load_65 rfl (Or.inr ⟨_, rfl⟩) k) ?_
        refine S_virtual (as := []) (rest := []) (b := 183) d_Sc_load_66 rfl (jw_Sc_carry.jo (by decide)) lm_Sc_48 ji_Sc_carry js_Sc_carry (w183 _) rfl rfl rfl (Nat.le_of_ble_eq_true rfl) (by decide) (by decide) (c_Sc_carry G v) (fun r v' hq => ?_)
        rw [hq.1, hq.2]
        clear hq r v'
        show ST G mi_Sc_load 69 [(3, .int (nI k1)), (0, .ref 183), (1, .ref src), (2, .int (nI n))] [] v 0 0 _
        exact S_vret d_Sc_load_69 rfl (by decide) (by decide) hQ
      · refine ST.lift (fun _ _ k => T_aload_n (v := .ref 183) d_Sc_load_28 rfl (Or.inr ⟨_, rfl⟩) k) ?_
        refine S_getfield d_Sc_load_29 fg_Sc_13 (w183 _) rfl ?_
        refine ST.lift (fun _ _ k => T_bipush (v := nI 8) d_Sc_load_32 (by decide) k) ?_
        refine ST.lift (fun _ _ k => T_iload_n d_Sc_load_34 rfl k) ?_
        refine S_imulN d_Sc_load_35 ?_
        refine ST.lift (fun _ _ k => T_bipush (v := nI 28) d_Sc_load_36 (by decide) k) ?_
        refine S_idivN d_Sc_load_38 (by omega) (by omega) (by omega) ?_
        refine ST.lift (fun _ _ k => T_dup2 d_Sc_load_39 rfl rfl k) ?_
        refine S_laload d_Sc_load_40 a185 (vp_in_nI (by omega) (by omega)) (fun z14 => ?_)
        refine ST.lift (fun _ _ k => T_aload_n (v := .ref src) d_Sc_load_41 rfl (Or.inr ⟨_, rfl⟩) k) ?_
        refine ST.lift (fun _ _ k => T_iload_n d_Sc_load_42 rfl k) ?_
        refine S_baload d_Sc_load_43 a_src (vp_in_nI (by omega) (by omega)) (fun z15 hz15 => ?_)
        refine ST.lift (fun _ _ k => T_i2l d_Sc_load_44 k) (S_anyl fun z16 => ?_)
        refine ST.lift (fun _ _ k => T_ldc2 d_Sc_load_45 kJ_Sc_60 k) ?_
        refine ST.lift (fun _ _ k => T_land d_Sc_load_48 k) (S_anyl fun z17 => ?_)
        refine ST.lift (fun _ _ k => T_bipush (v := nI 8) d_Sc_load_49 (by decide) k) ?_
        refine ST.lift (fun _ _ k => T_iload_n d_Sc_load_51 rfl k) ?_
        refine S_imulN d_Sc_load_52 ?_
        refine ST.lift (fun _ _ k => T_bipush (v := nI 28) d_Sc_load_53 (by decide) k) ?_
        refine S_iremN d_Sc_load_55 (by omega) (by omega) (by omega) ?_
        refine ST.lift (fun _ _ k => T_lshl d_Sc_load_56 k) (S_anyl fun z18 => ?_)
        refine ST.lift (fun _ _ k => T_ladd d_Sc_load_57 k) (S_anyl fun z19 => ?_)
        refine S_lastore d_Sc_load_58 (by decide) a185 (vp_in_nI (by omega) (by omega)) ?_
        refine S_iincN (a := k1) (b := 1) (L' := [(3, .int (nI (k1 + 1))), (0, .ref 183), (1, .ref src), (2, .int (nI n))]) d_Sc_load_59 (by decide) rfl rfl rfl ?_
        refine ST.lift (fun _ _ k => T_goto (tgt := 23) d_Sc_load_62 rfl k) ?_
        exact ih3 (n - (k1 + 1)) (by omega) (k1 + 1)  rfl (by omega)
  exact lp4 _ 0  rfl (by omega)
set_option maxRecDepth 100000 in
set_option maxHeartbeats 4000000 in
theorem c_Sc_addModulus (G : GX) (v : Nat → Int32) (sign : Int32) : CS G mi_Sc_addModulus [.ref 183, .int sign] v (fun r v' => r = none ∧ v' = v) := by
  refine CS.of (by decide) (Nat.le_of_ble_eq_true rfl) ?_
  generalize hQe : (fun (r : Option Value) (v' : Nat → Int32) => r = none ∧ v' = v) = Q
  have hQ : Q none v := by rw [← hQe]; exact ⟨rfl, rfl⟩
  clear hQe
  show ST G mi_Sc_addModulus 0 [(0, .ref 183), (1, .int sign)] [] v 0 0 Q
  refine ST.lift (fun _ _ k => T_iconst (v := nI 0) d_Sc_addModulus_0 (by decide) k) ?_
  refine ST.lift (fun _ _ k => T_istore_n (L' := [(2, .int (nI 0)), (0, .ref 183), (1, .int sign)]) d_Sc_addModulus_1 (by decide) rfl k) ?_
  have lp4 : ∀ (n2 k1 : Nat), 20 - k1 = n2 → 0 ≤ k1 ∧ k1 ≤ 0 + 20 → ST G mi_Sc_addModulus 2 [(2, .int (nI k1)), (0, .ref 183), (1, .int sign)] [] v 0 0 Q := by
    intro n2
    induction n2 using Nat.strongRecOn with
    | _ n2 ih3 =>
      intro k1 h5 h6
      refine ST.lift (fun _ _ k => T_iload_n d_Sc_addModulus_2 rfl k) ?_
      refine ST.lift (fun _ _ k => T_bipush (v := nI 20) d_Sc_addModulus_3 (by decide) k) ?_
      refine S_icmp_geN d_Sc_addModulus_5 rfl (by omega) (by omega) (fun c7 => ?_) (fun c7 => ?_)
      · refine ST.lift (fun _ _ k => T_aload_n (v := .ref 183) d_Sc_addModulus_50 rfl (Or.inr ⟨_, rfl⟩) k) ?_
        refine S_virtual (as := []) (rest := []) (b := 183) d_Sc_addModulus_51 rfl (jw_Sc_carry.jo (by decide)) lm_Sc_48 ji_Sc_carry js_Sc_carry (w183 _) rfl rfl rfl (Nat.le_of_ble_eq_true rfl) (by decide) (by decide) (c_Sc_carry G v) (fun r v' hq => ?_)
        rw [hq.1, hq.2]
        clear hq r v'
        show ST G mi_Sc_addModulus 54 [(2, .int (nI k1)), (0, .ref 183), (1, .int sign)] [] v 0 0 _
        exact S_vret d_Sc_addModulus_54 rfl (by decide) (by decide) hQ
      · refine ST.lift (fun _ _ k => T_aload_n (v := .ref 183) d_Sc_addModulus_8 rfl (Or.inr ⟨_, rfl⟩) k) ?_
        refine S_getfield d_Sc_addModulus_9 fg_Sc_13 (w183 _) rfl ?_
        refine ST.lift (fun _ _ k => T_iload_n d_Sc_addModulus_12 rfl k) ?_
        refine ST.lift (fun _ _ k => T_iload_n d_Sc_addModulus_13 rfl k) ?_
        refine ST.lift (fun _ _ k => T_bipush (v := nI 10) d_Sc_addModulus_14 (by decide) k) ?_
        have J43_31 : ∀ (z30 : Int64), ST G mi_Sc_addModulus 43 [(2, .int (nI k1)), (0, .ref 183), (1, .int sign)] [.long z30, .int (nI k1), .ref 185] v 0 0 Q := by
          intro z30
          refine S_lastore d_Sc_addModulus_43 (by decide) a185 (vp_in_nI (by omega) (by omega)) ?_
          refine S_iincN (a := k1) (b := 1) (L' := [(2, .int (nI (k1 + 1))), (0, .ref 183), (1, .int sign)]) d_Sc_addModulus_44 (by decide) rfl rfl rfl ?_
          refine ST.lift (fun _ _ k => T_goto (tgt := 2) d_Sc_addModulus_47 rfl k) ?_
          exact ih3 (20 - (k1 + 1)) (by omega) (k1 + 1)  rfl (by omega)
        refine S_icmp_geN d_Sc_addModulus_16 rfl (by omega) (by omega) (fun c23 => ?_) (fun c23 => ?_)
        · refine ST.lift (fun _ _ k => T_aload_n (v := .ref 183) d_Sc_addModulus_37 rfl (Or.inr ⟨_, rfl⟩) k) ?_
          refine S_getfield d_Sc_addModulus_38 fg_Sc_9 (w183 _) rfl ?_
          refine ST.lift (fun _ _ k => T_iload_n d_Sc_addModulus_41 rfl k) ?_
          refine S_laload d_Sc_addModulus_42 a184 (vp_in_nI (by omega) (by omega)) (fun z32 => ?_)
          exact J43_31 z32
        · refine ST.lift (fun _ _ k => T_aload_n (v := .ref 183) d_Sc_addModulus_19 rfl (Or.inr ⟨_, rfl⟩) k) ?_
          refine S_getfield d_Sc_addModulus_20 fg_Sc_9 (w183 _) rfl ?_
          refine ST.lift (fun _ _ k => T_iload_n d_Sc_addModulus_23 rfl k) ?_
          refine S_laload d_Sc_addModulus_24 a184 (vp_in_nI (by omega) (by omega)) (fun z33 => ?_)
          refine ST.lift (fun _ _ k => T_iload_n d_Sc_addModulus_25 rfl k) ?_
          refine ST.lift (fun _ _ k => T_i2l d_Sc_addModulus_26 k) (S_anyl fun z34 => ?_)
          refine ST.lift (fun _ _ k => T_getstatic (q := ("PasswordGate$Scalars", "Q", "[J", .ref 10)) d_Sc_addModulus_27 (List.mem_of_getElem? (i := 10) rfl) gs_Sc_43 (show 10 < K0 by decide) k) ?_
          refine ST.lift (fun _ _ k => T_iload_n d_Sc_addModulus_30 rfl k) ?_
          refine S_laload d_Sc_addModulus_31 a10 (vp_in_nI (by omega) (by omega)) (fun z35 => ?_)
          refine ST.lift (fun _ _ k => T_lmul d_Sc_addModulus_32 k) (S_anyl fun z36 => ?_)
          refine ST.lift (fun _ _ k => T_ladd d_Sc_addModulus_33 k) (S_anyl fun z37 => ?_)
          refine ST.lift (fun _ _ k => T_goto (tgt := 43) d_Sc_addModulus_34 rfl k) ?_
          exact J43_31 z37
  exact lp4 _ 0  rfl (by omega)
set_option maxRecDepth 100000 in
set_option maxHeartbeats 4000000 in
theorem c_Sc_foldOnce (G : GX) (v : Nat → Int32) : CS G mi_Sc_foldOnce [.ref 183] v (fun r v' => r = none ∧ v' = v) := by
  refine CS.of (by decide) (Nat.le_of_ble_eq_true rfl) ?_
  generalize hQe : (fun (r : Option Value) (v' : Nat → Int32) => r = none ∧ v' = v) = Q
  have hQ : Q none v := by rw [← hQe]; exact ⟨rfl, rfl⟩
  clear hQe
  show ST G mi_Sc_foldOnce 0 [(0, .ref 183)] [] v 0 0 Q
  refine ST.lift (fun _ _ k => T_iconst (v := nI 0) d_Sc_foldOnce_0 (by decide) k) ?_
  refine ST.lift (fun _ _ k => T_istore_n (L' := [(1, .int (nI 0)), (0, .ref 183)]) d_Sc_foldOnce_1 (by decide) rfl k) ?_
  have lp4 : ∀ (n2 k1 : Nat), 20 - k1 = n2 → 0 ≤ k1 ∧ k1 ≤ 0 + 20 → ST G mi_Sc_foldOnce 2 [(1, .int (nI k1)), (0, .ref 183)] [] v 0 0 Q := by
    intro n2
    induction n2 using Nat.strongRecOn with
    | _ n2 ih3 =>
      intro k1 h5 h6
      refine ST.lift (fun _ _ k => T_iload_n d_Sc_foldOnce_2 rfl k) ?_
      refine ST.lift (fun _ _ k => T_bipush (v := nI 20) d_Sc_foldOnce_3 (by decide) k) ?_
      refine S_icmp_geN d_Sc_foldOnce_5 rfl (by omega) (by omega) (fun c7 => ?_) (fun c7 => ?_)
      · refine ST.lift (fun _ _ k => T_bipush (v := nI 9) d_Sc_foldOnce_36 (by decide) k) ?_
        refine ST.lift (fun _ _ k => T_istore_n (L' := [(1, .int (nI 9)), (0, .ref 183)]) d_Sc_foldOnce_38 (by decide) rfl k) ?_
        have lp16 : ∀ (n14 k13 : Nat), 20 - k13 = n14 → 9 ≤ k13 ∧ k13 ≤ 9 + 20 → ST G mi_Sc_foldOnce 39 [(1, .int (nI k13)), (0, .ref 183)] [] v 0 0 Q := by
          intro n14
          induction n14 using Nat.strongRecOn with
          | _ n14 ih15 =>
            intro k13 h17 h18
            refine ST.lift (fun _ _ k => T_iload_n d_Sc_foldOnce_39 rfl k) ?_
            refine ST.lift (fun _ _ k => T_bipush (v := nI 20) d_Sc_foldOnce_40 (by decide) k) ?_
            refine S_icmp_geN d_Sc_foldOnce_42 rfl (by omega) (by omega) (fun c19 => ?_) (fun c19 => ?_)
            · refine ST.lift (fun _ _ k => T_aload_n (v := .ref 183) d_Sc_foldOnce_102 rfl (Or.inr ⟨_, rfl⟩) k) ?_
              refine S_virtual (as := []) (rest := []) (b := 183) d_Sc_foldOnce_103 rfl (jw_Sc_carry.jo (by decide)) lm_Sc_48 ji_Sc_carry js_Sc_carry (w183 _) rfl rfl rfl (Nat.le_of_ble_eq_true rfl) (by decide) (by decide) (c_Sc_carry G v) (fun r v' hq => ?_)
              rw [hq.1, hq.2]
              clear hq r v'
              show ST G mi_Sc_foldOnce 106 [(1, .int (nI k13)), (0, .ref 183)] [] v 0 0 _
              exact S_vret d_Sc_foldOnce_106 rfl (by decide) (by decide) hQ
            · refine ST.lift (fun _ _ k => T_aload_n (v := .ref 183) d_Sc_foldOnce_45 rfl (Or.inr ⟨_, rfl⟩) k) ?_
              refine S_getfield d_Sc_foldOnce_46 fg_Sc_9 (w183 _) rfl ?_
              refine ST.lift (fun _ _ k => T_iload_n d_Sc_foldOnce_49 rfl k) ?_
              refine S_laload d_Sc_foldOnce_50 a184 (vp_in_nI (by omega) (by omega)) (fun z64 => ?_)
              refine ST.lift (fun _ _ k => T_lstore_n (L' := [(2, .long z64), (1, .int (nI k13)), (0, .ref 183)]) d_Sc_foldOnce_51 (by decide) rfl k) ?_
              refine ST.lift (fun _ _ k => T_lload_n d_Sc_foldOnce_52 rfl k) ?_
              refine ST.lift (fun _ _ k => T_lconst (v := 0) d_Sc_foldOnce_53 (by decide) k) ?_
              refine ST.lift (fun _ _ k => T_lcmp d_Sc_foldOnce_54 k) (S_anyi fun z65 => ?_)
              have J96_87 : ST G mi_Sc_foldOnce 96 [(2, .long z64), (1, .int (nI k13)), (0, .ref 183)] [] v 0 0 Q := by
                refine S_iincN (a := k13) (b := 1) (L' := [(1, .int (nI (k13 + 1))), (2, .long z64), (0, .ref 183)]) d_Sc_foldOnce_96 (by decide) rfl rfl rfl ?_
                refine ST.lift (fun _ _ k => T_goto (tgt := 39) d_Sc_foldOnce_99 rfl k) ?_
                refine S_pick [0, 2] rfl ?_
                exact ih15 (20 - (k13 + 1)) (by omega) (k13 + 1)  rfl (by omega)
              refine S_if_eq d_Sc_foldOnce_55 rfl (fun c66 => ?_) (fun c66 => ?_)
              · exact J96_87 
              · refine ST.lift (fun _ _ k => T_iconst (v := nI 0) d_Sc_foldOnce_58 (by decide) k) ?_
                refine ST.lift (fun _ _ k => T_istore (L' := [(4, .int (nI 0)), (2, .long z64), (1, .int (nI k13)), (0, .ref 183)]) d_Sc_foldOnce_59 (by decide) rfl k) ?_
                refine ST.lift (fun _ _ k => T_iload d_Sc_foldOnce_61 rfl k) ?_
                refine ST.lift (fun _ _ k => T_iconst (v := nI 5) d_Sc_foldOnce_63 (by decide) k) ?_
                refine S_icmp_geN d_Sc_foldOnce_64 rfl (by omega) (by omega) (fun c => by first | exact absurd c (by omega) | exact c.elim | exact absurd c (by decide) | exact absurd (by assumption) c | exact absurd c (by assumption)) (fun _ => ?_)
                refine ST.lift (fun _ _ k => T_aload_n (v := .ref 183) d_Sc_foldOnce_67 rfl (Or.inr ⟨_, rfl⟩) k) ?_
                refine S_getfield d_Sc_foldOnce_68 fg_Sc_13 (w183 _) rfl ?_
                refine ST.lift (fun _ _ k => T_iload_n d_Sc_foldOnce_71 rfl k) ?_
                refine ST.lift (fun _ _ k => T_bipush (v := nI 9) d_Sc_foldOnce_72 (by decide) k) ?_
                refine S_isubN d_Sc_foldOnce_74 (by omega) ?_
                refine ST.lift (fun _ _ k => T_iload d_Sc_foldOnce_75 rfl k) ?_
                refine S_iaddN d_Sc_foldOnce_77 ?_
                refine ST.lift (fun _ _ k => T_dup2 d_Sc_foldOnce_78 rfl rfl k) ?_
                refine S_laload d_Sc_foldOnce_79 a185 (vp_in_nI (by omega) (by omega)) (fun z88 => ?_)
                refine ST.lift (fun _ _ k => T_lload_n d_Sc_foldOnce_80 rfl k) ?_
                refine ST.lift (fun _ _ k => T_getstatic (q := ("PasswordGate$Scalars", "Q", "[J", .ref 10)) d_Sc_foldOnce_81 (List.mem_of_getElem? (i := 10) rfl) gs_Sc_43 (show 10 < K0 by decide) k) ?_
                refine ST.lift (fun _ _ k => T_iload d_Sc_foldOnce_84 rfl k) ?_
                refine S_laload d_Sc_foldOnce_86 a10 (vp_in_nI (by omega) (by omega)) (fun z89 => ?_)
                refine ST.lift (fun _ _ k => T_lmul d_Sc_foldOnce_87 k) (S_anyl fun z90 => ?_)
                refine ST.lift (fun _ _ k => T_lsub d_Sc_foldOnce_88 k) (S_anyl fun z91 => ?_)
                refine S_lastore d_Sc_foldOnce_89 (by decide) a185 (vp_in_nI (by omega) (by omega)) ?_
                refine S_iincN (a := 0) (b := 1) (L' := [(4, .int (nI 1)), (2, .long z64), (1, .int (nI k13)), (0, .ref 183)]) d_Sc_foldOnce_90 (by decide) rfl rfl rfl ?_
                refine ST.lift (fun _ _ k => T_goto (tgt := 61) d_Sc_foldOnce_93 rfl k) ?_
                refine ST.lift (fun _ _ k => T_iload d_Sc_foldOnce_61 rfl k) ?_
                refine ST.lift (fun _ _ k => T_iconst (v := nI 5) d_Sc_foldOnce_63 (by decide) k) ?_
                refine S_icmp_geN d_Sc_foldOnce_64 rfl (by omega) (by omega) (fun c => by first | exact absurd c (by omega) | exact c.elim | exact absurd c (by decide) | exact absurd (by assumption) c | exact absurd c (by assumption)) (fun _ => ?_)
                refine ST.lift (fun _ _ k => T_aload_n (v := .ref 183) d_Sc_foldOnce_67 rfl (Or.inr ⟨_, rfl⟩) k) ?_
                refine S_getfield d_Sc_foldOnce_68 fg_Sc_13 (w183 _) rfl ?_
                refine ST.lift (fun _ _ k => T_iload_n d_Sc_foldOnce_71 rfl k) ?_
                refine ST.lift (fun _ _ k => T_bipush (v := nI 9) d_Sc_foldOnce_72 (by decide) k) ?_
                refine S_isubN d_Sc_foldOnce_74 (by omega) ?_
                refine ST.lift (fun _ _ k => T_iload d_Sc_foldOnce_75 rfl k) ?_
                refine S_iaddN d_Sc_foldOnce_77 ?_
                refine ST.lift (fun _ _ k => T_dup2 d_Sc_foldOnce_78 rfl rfl k) ?_
                refine S_laload d_Sc_foldOnce_79 a185 (vp_in_nI (by omega) (by omega)) (fun z92 => ?_)
                refine ST.lift (fun _ _ k => T_lload_n d_Sc_foldOnce_80 rfl k) ?_
                refine ST.lift (fun _ _ k => T_getstatic (q := ("PasswordGate$Scalars", "Q", "[J", .ref 10)) d_Sc_foldOnce_81 (List.mem_of_getElem? (i := 10) rfl) gs_Sc_43 (show 10 < K0 by decide) k) ?_
                refine ST.lift (fun _ _ k => T_iload d_Sc_foldOnce_84 rfl k) ?_
                refine S_laload d_Sc_foldOnce_86 a10 (vp_in_nI (by omega) (by omega)) (fun z93 => ?_)
                refine ST.lift (fun _ _ k => T_lmul d_Sc_foldOnce_87 k) (S_anyl fun z94 => ?_)
                refine ST.lift (fun _ _ k => T_lsub d_Sc_foldOnce_88 k) (S_anyl fun z95 => ?_)
                refine S_lastore d_Sc_foldOnce_89 (by decide) a185 (vp_in_nI (by omega) (by omega)) ?_
                refine S_iincN (a := 1) (b := 1) (L' := [(4, .int (nI 2)), (2, .long z64), (1, .int (nI k13)), (0, .ref 183)]) d_Sc_foldOnce_90 (by decide) rfl rfl rfl ?_
                refine ST.lift (fun _ _ k => T_goto (tgt := 61) d_Sc_foldOnce_93 rfl k) ?_
                refine ST.lift (fun _ _ k => T_iload d_Sc_foldOnce_61 rfl k) ?_
                refine ST.lift (fun _ _ k => T_iconst (v := nI 5) d_Sc_foldOnce_63 (by decide) k) ?_
                refine S_icmp_geN d_Sc_foldOnce_64 rfl (by omega) (by omega) (fun c => by first | exact absurd c (by omega) | exact c.elim | exact absurd c (by decide) | exact absurd (by assumption) c | exact absurd c (by assumption)) (fun _ => ?_)
                refine ST.lift (fun _ _ k => T_aload_n (v := .ref 183) d_Sc_foldOnce_67 rfl (Or.inr ⟨_, rfl⟩) k) ?_
                refine S_getfield d_Sc_foldOnce_68 fg_Sc_13 (w183 _) rfl ?_
                refine ST.lift (fun _ _ k => T_iload_n d_Sc_foldOnce_71 rfl k) ?_
                refine ST.lift (fun _ _ k => T_bipush (v := nI 9) d_Sc_foldOnce_72 (by decide) k) ?_
                refine S_isubN d_Sc_foldOnce_74 (by omega) ?_
                refine ST.lift (fun _ _ k => T_iload d_Sc_foldOnce_75 rfl k) ?_
                refine S_iaddN d_Sc_foldOnce_77 ?_
                refine ST.lift (fun _ _ k => T_dup2 d_Sc_foldOnce_78 rfl rfl k) ?_
                refine S_laload d_Sc_foldOnce_79 a185 (vp_in_nI (by omega) (by omega)) (fun z96 => ?_)
                refine ST.lift (fun _ _ k => T_lload_n d_Sc_foldOnce_80 rfl k) ?_
                refine ST.lift (fun _ _ k => T_getstatic (q := ("PasswordGate$Scalars", "Q", "[J", .ref 10)) d_Sc_foldOnce_81 (List.mem_of_getElem? (i := 10) rfl) gs_Sc_43 (show 10 < K0 by decide) k) ?_
                refine ST.lift (fun _ _ k => T_iload d_Sc_foldOnce_84 rfl k) ?_
                refine S_laload d_Sc_foldOnce_86 a10 (vp_in_nI (by omega) (by omega)) (fun z97 => ?_)
                refine ST.lift (fun _ _ k => T_lmul d_Sc_foldOnce_87 k) (S_anyl fun z98 => ?_)
                refine ST.lift (fun _ _ k => T_lsub d_Sc_foldOnce_88 k) (S_anyl fun z99 => ?_)
                refine S_lastore d_Sc_foldOnce_89 (by decide) a185 (vp_in_nI (by omega) (by omega)) ?_
                refine S_iincN (a := 2) (b := 1) (L' := [(4, .int (nI 3)), (2, .long z64), (1, .int (nI k13)), (0, .ref 183)]) d_Sc_foldOnce_90 (by decide) rfl rfl rfl ?_
                refine ST.lift (fun _ _ k => T_goto (tgt := 61) d_Sc_foldOnce_93 rfl k) ?_
                refine ST.lift (fun _ _ k => T_iload d_Sc_foldOnce_61 rfl k) ?_
                refine ST.lift (fun _ _ k => T_iconst (v := nI 5) d_Sc_foldOnce_63 (by decide) k) ?_
                refine S_icmp_geN d_Sc_foldOnce_64 rfl (by omega) (by omega) (fun c => by first | exact absurd c (by omega) | exact c.elim | exact absurd c (by decide) | exact absurd (by assumption) c | exact absurd c (by assumption)) (fun _ => ?_)
                refine ST.lift (fun _ _ k => T_aload_n (v := .ref 183) d_Sc_foldOnce_67 rfl (Or.inr ⟨_, rfl⟩) k) ?_
                refine S_getfield d_Sc_foldOnce_68 fg_Sc_13 (w183 _) rfl ?_
                refine ST.lift (fun _ _ k => T_iload_n d_Sc_foldOnce_71 rfl k) ?_
                refine ST.lift (fun _ _ k => T_bipush (v := nI 9) d_Sc_foldOnce_72 (by decide) k) ?_
                refine S_isubN d_Sc_foldOnce_74 (by omega) ?_
                refine ST.lift (fun _ _ k => T_iload d_Sc_foldOnce_75 rfl k) ?_
                refine S_iaddN d_Sc_foldOnce_77 ?_
                refine ST.lift (fun _ _ k => T_dup2 d_Sc_foldOnce_78 rfl rfl k) ?_
                refine S_laload d_Sc_foldOnce_79 a185 (vp_in_nI (by omega) (by omega)) (fun z100 => ?_)
                refine ST.lift (fun _ _ k => T_lload_n d_Sc_foldOnce_80 rfl k) ?_
                refine ST.lift (fun _ _ k => T_getstatic (q := ("PasswordGate$Scalars", "Q", "[J", .ref 10)) d_Sc_foldOnce_81 (List.mem_of_getElem? (i := 10) rfl) gs_Sc_43 (show 10 < K0 by decide) k) ?_
                refine ST.lift (fun _ _ k => T_iload d_Sc_foldOnce_84 rfl k) ?_
                refine S_laload d_Sc_foldOnce_86 a10 (vp_in_nI (by omega) (by omega)) (fun z101 => ?_)
                refine ST.lift (fun _ _ k => T_lmul d_Sc_foldOnce_87 k) (S_anyl fun z102 => ?_)
                refine ST.lift (fun _ _ k => T_lsub d_Sc_foldOnce_88 k) (S_anyl fun z103 => ?_)
                refine S_lastore d_Sc_foldOnce_89 (by decide) a185 (vp_in_nI (by omega) (by omega)) ?_
                refine S_iincN (a := 3) (b := 1) (L' := [(4, .int (nI 4)), (2, .long z64), (1, .int (nI k13)), (0, .ref 183)]) d_Sc_foldOnce_90 (by decide) rfl rfl rfl ?_
                refine ST.lift (fun _ _ k => T_goto (tgt := 61) d_Sc_foldOnce_93 rfl k) ?_
                refine ST.lift (fun _ _ k => T_iload d_Sc_foldOnce_61 rfl k) ?_
                refine ST.lift (fun _ _ k => T_iconst (v := nI 5) d_Sc_foldOnce_63 (by decide) k) ?_
                refine S_icmp_geN d_Sc_foldOnce_64 rfl (by omega) (by omega) (fun c => by first | exact absurd c (by omega) | exact c.elim | exact absurd c (by decide) | exact absurd (by assumption) c | exact absurd c (by assumption)) (fun _ => ?_)
                refine ST.lift (fun _ _ k => T_aload_n (v := .ref 183) d_Sc_foldOnce_67 rfl (Or.inr ⟨_, rfl⟩) k) ?_
                refine S_getfield d_Sc_foldOnce_68 fg_Sc_13 (w183 _) rfl ?_
                refine ST.lift (fun _ _ k => T_iload_n d_Sc_foldOnce_71 rfl k) ?_
                refine ST.lift (fun _ _ k => T_bipush (v := nI 9) d_Sc_foldOnce_72 (by decide) k) ?_
                refine S_isubN d_Sc_foldOnce_74 (by omega) ?_
                refine ST.lift (fun _ _ k => T_iload d_Sc_foldOnce_75 rfl k) ?_
                refine S_iaddN d_Sc_foldOnce_77 ?_
                refine ST.lift (fun _ _ k => T_dup2 d_Sc_foldOnce_78 rfl rfl k) ?_
                refine S_laload d_Sc_foldOnce_79 a185 (vp_in_nI (by omega) (by omega)) (fun z104 => ?_)
                refine ST.lift (fun _ _ k => T_lload_n d_Sc_foldOnce_80 rfl k) ?_
                refine ST.lift (fun _ _ k => T_getstatic (q := ("PasswordGate$Scalars", "Q", "[J", .ref 10)) d_Sc_foldOnce_81 (List.mem_of_getElem? (i := 10) rfl) gs_Sc_43 (show 10 < K0 by decide) k) ?_
                refine ST.lift (fun _ _ k => T_iload d_Sc_foldOnce_84 rfl k) ?_
                refine S_laload d_Sc_foldOnce_86 a10 (vp_in_nI (by omega) (by omega)) (fun z105 => ?_)
                refine ST.lift (fun _ _ k => T_lmul d_Sc_foldOnce_87 k) (S_anyl fun z106 => ?_)
                refine ST.lift (fun _ _ k => T_lsub d_Sc_foldOnce_88 k) (S_anyl fun z107 => ?_)
                refine S_lastore d_Sc_foldOnce_89 (by decide) a185 (vp_in_nI (by omega) (by omega)) ?_
                refine S_iincN (a := 4) (b := 1) (L' := [(4, .int (nI 5)), (2, .long z64), (1, .int (nI k13)), (0, .ref 183)]) d_Sc_foldOnce_90 (by decide) rfl rfl rfl ?_
                refine ST.lift (fun _ _ k => T_goto (tgt := 61) d_Sc_foldOnce_93 rfl k) ?_
                refine ST.lift (fun _ _ k => T_iload d_Sc_foldOnce_61 rfl k) ?_
                refine ST.lift (fun _ _ k => T_iconst (v := nI 5) d_Sc_foldOnce_63 (by decide) k) ?_
                refine S_icmp_geN d_Sc_foldOnce_64 rfl (by omega) (by omega) (fun _ => ?_) (fun c => by first | exact absurd c (by omega) | exact c.elim | exact absurd c (by decide) | exact absurd (by assumption) c | exact absurd c (by assumption))
                refine S_pick [1, 2, 3] rfl ?_
                exact J96_87 
        exact lp16 _ 9  rfl (by omega)
      · refine ST.lift (fun _ _ k => T_aload_n (v := .ref 183) d_Sc_foldOnce_8 rfl (Or.inr ⟨_, rfl⟩) k) ?_
        refine S_getfield d_Sc_foldOnce_9 fg_Sc_13 (w183 _) rfl ?_
        refine ST.lift (fun _ _ k => T_iload_n d_Sc_foldOnce_12 rfl k) ?_
        refine ST.lift (fun _ _ k => T_iload_n d_Sc_foldOnce_13 rfl k) ?_
        refine ST.lift (fun _ _ k => T_bipush (v := nI 9) d_Sc_foldOnce_14 (by decide) k) ?_
        have J29_111 : ∀ (z110 : Int64), ST G mi_Sc_foldOnce 29 [(1, .int (nI k1)), (0, .ref 183)] [.long z110, .int (nI k1), .ref 185] v 0 0 Q := by
          intro z110
          refine S_lastore d_Sc_foldOnce_29 (by decide) a185 (vp_in_nI (by omega) (by omega)) ?_
          refine S_iincN (a := k1) (b := 1) (L' := [(1, .int (nI (k1 + 1))), (0, .ref 183)]) d_Sc_foldOnce_30 (by decide) rfl rfl rfl ?_
          refine ST.lift (fun _ _ k => T_goto (tgt := 2) d_Sc_foldOnce_33 rfl k) ?_
          exact ih3 (20 - (k1 + 1)) (by omega) (k1 + 1)  rfl (by omega)
        refine S_icmp_geN d_Sc_foldOnce_16 rfl (by omega) (by omega) (fun c108 => ?_) (fun c108 => ?_)
        · refine ST.lift (fun _ _ k => T_lconst (v := 0) d_Sc_foldOnce_28 (by decide) k) ?_
          exact J29_111 0
        · refine ST.lift (fun _ _ k => T_aload_n (v := .ref 183) d_Sc_foldOnce_19 rfl (Or.inr ⟨_, rfl⟩) k) ?_
          refine S_getfield d_Sc_foldOnce_20 fg_Sc_9 (w183 _) rfl ?_
          refine ST.lift (fun _ _ k => T_iload_n d_Sc_foldOnce_23 rfl k) ?_
          refine S_laload d_Sc_foldOnce_24 a184 (vp_in_nI (by omega) (by omega)) (fun z112 => ?_)
          refine ST.lift (fun _ _ k => T_goto (tgt := 29) d_Sc_foldOnce_25 rfl k) ?_
          exact J29_111 z112
  exact lp4 _ 0  rfl (by omega)
set_option maxRecDepth 100000 in
set_option maxHeartbeats 4000000 in
theorem c_Sc_fold (G : GX) (v : Nat → Int32) : CS G mi_Sc_fold [.ref 183] v (fun r v' => r = none ∧ v' = v) := by
  refine CS.of (by decide) (Nat.le_of_ble_eq_true rfl) ?_
  generalize hQe : (fun (r : Option Value) (v' : Nat → Int32) => r = none ∧ v' = v) = Q
  have hQ : Q none v := by rw [← hQe]; exact ⟨rfl, rfl⟩
  clear hQe
  show ST G mi_Sc_fold 0 [(0, .ref 183)] [] v 0 0 Q
  refine ST.lift (fun _ _ k => T_iconst (v := nI 0) d_Sc_fold_0 (by decide) k) ?_
  refine ST.lift (fun _ _ k => T_istore_n (L' := [(1, .int (nI 0)), (0, .ref 183)]) d_Sc_fold_1 (by decide) rfl k) ?_
  refine ST.lift (fun _ _ k => T_iload_n d_Sc_fold_2 rfl k) ?_
  refine ST.lift (fun _ _ k => T_iconst (v := nI 3) d_Sc_fold_3 (by decide) k) ?_
  refine S_icmp_geN d_Sc_fold_4 rfl (by omega) (by omega) (fun c => by first | exact absurd c (by omega) | exact c.elim | exact absurd c (by decide) | exact absurd (by assumption) c | exact absurd c (by assumption)) (fun _ => ?_)
  refine ST.lift (fun _ _ k => T_aload_n (v := .ref 183) d_Sc_fold_7 rfl (Or.inr ⟨_, rfl⟩) k) ?_
  refine S_virtual (as := []) (rest := []) (b := 183) d_Sc_fold_8 rfl (jw_Sc_foldOnce.jo (by decide)) lm_Sc_51 ji_Sc_foldOnce js_Sc_foldOnce (w183 _) rfl rfl rfl (Nat.le_of_ble_eq_true rfl) (by decide) (by decide) (c_Sc_foldOnce G v) (fun r v' hq => ?_)
  rw [hq.1, hq.2]
  clear hq r v'
  show ST G mi_Sc_fold 11 [(1, .int (nI 0)), (0, .ref 183)] [] v 0 0 _
  refine S_iincN (a := 0) (b := 1) (L' := [(1, .int (nI 1)), (0, .ref 183)]) d_Sc_fold_11 (by decide) rfl rfl rfl ?_
  refine ST.lift (fun _ _ k => T_goto (tgt := 2) d_Sc_fold_14 rfl k) ?_
  refine ST.lift (fun _ _ k => T_iload_n d_Sc_fold_2 rfl k) ?_
  refine ST.lift (fun _ _ k => T_iconst (v := nI 3) d_Sc_fold_3 (by decide) k) ?_
  refine S_icmp_geN d_Sc_fold_4 rfl (by omega) (by omega) (fun c => by first | exact absurd c (by omega) | exact c.elim | exact absurd c (by decide) | exact absurd (by assumption) c | exact absurd c (by assumption)) (fun _ => ?_)
  refine ST.lift (fun _ _ k => T_aload_n (v := .ref 183) d_Sc_fold_7 rfl (Or.inr ⟨_, rfl⟩) k) ?_
  refine S_virtual (as := []) (rest := []) (b := 183) d_Sc_fold_8 rfl (jw_Sc_foldOnce.jo (by decide)) lm_Sc_51 ji_Sc_foldOnce js_Sc_foldOnce (w183 _) rfl rfl rfl (Nat.le_of_ble_eq_true rfl) (by decide) (by decide) (c_Sc_foldOnce G v) (fun r v' hq => ?_)
  rw [hq.1, hq.2]
  clear hq r v'
  show ST G mi_Sc_fold 11 [(1, .int (nI 1)), (0, .ref 183)] [] v 0 0 _
  refine S_iincN (a := 1) (b := 1) (L' := [(1, .int (nI 2)), (0, .ref 183)]) d_Sc_fold_11 (by decide) rfl rfl rfl ?_
  refine ST.lift (fun _ _ k => T_goto (tgt := 2) d_Sc_fold_14 rfl k) ?_
  refine ST.lift (fun _ _ k => T_iload_n d_Sc_fold_2 rfl k) ?_
  refine ST.lift (fun _ _ k => T_iconst (v := nI 3) d_Sc_fold_3 (by decide) k) ?_
  refine S_icmp_geN d_Sc_fold_4 rfl (by omega) (by omega) (fun c => by first | exact absurd c (by omega) | exact c.elim | exact absurd c (by decide) | exact absurd (by assumption) c | exact absurd c (by assumption)) (fun _ => ?_)
  refine ST.lift (fun _ _ k => T_aload_n (v := .ref 183) d_Sc_fold_7 rfl (Or.inr ⟨_, rfl⟩) k) ?_
  refine S_virtual (as := []) (rest := []) (b := 183) d_Sc_fold_8 rfl (jw_Sc_foldOnce.jo (by decide)) lm_Sc_51 ji_Sc_foldOnce js_Sc_foldOnce (w183 _) rfl rfl rfl (Nat.le_of_ble_eq_true rfl) (by decide) (by decide) (c_Sc_foldOnce G v) (fun r v' hq => ?_)
  rw [hq.1, hq.2]
  clear hq r v'
  show ST G mi_Sc_fold 11 [(1, .int (nI 2)), (0, .ref 183)] [] v 0 0 _
  refine S_iincN (a := 2) (b := 1) (L' := [(1, .int (nI 3)), (0, .ref 183)]) d_Sc_fold_11 (by decide) rfl rfl rfl ?_
  refine ST.lift (fun _ _ k => T_goto (tgt := 2) d_Sc_fold_14 rfl k) ?_
  refine ST.lift (fun _ _ k => T_iload_n d_Sc_fold_2 rfl k) ?_
  refine ST.lift (fun _ _ k => T_iconst (v := nI 3) d_Sc_fold_3 (by decide) k) ?_
  refine S_icmp_geN d_Sc_fold_4 rfl (by omega) (by omega) (fun _ => ?_) (fun c => by first | exact absurd c (by omega) | exact c.elim | exact absurd c (by decide) | exact absurd (by assumption) c | exact absurd c (by assumption))
  refine ST.lift (fun _ _ k => T_aload_n (v := .ref 183) d_Sc_fold_17 rfl (Or.inr ⟨_, rfl⟩) k) ?_
  refine ST.lift (fun _ _ k => T_iconst (v := -1) d_Sc_fold_18 (by decide) k) ?_
  refine S_virtual (as := [.int (-1)]) (rest := []) (b := 183) d_Sc_fold_19 rfl (jw_Sc_addModulus.jo (by decide)) lm_Sc_54 ji_Sc_addModulus js_Sc_addModulus (w183 _) rfl rfl rfl (Nat.le_of_ble_eq_true rfl) (by decide) (by decide) (c_Sc_addModulus G v (-1)) (fun r v' hq => ?_)
  rw [hq.1, hq.2]
  clear hq r v'
  show ST G mi_Sc_fold 22 [(1, .int (nI 3)), (0, .ref 183)] [] v 0 0 _
  refine ST.lift (fun _ _ k => T_iconst (v := nI 0) d_Sc_fold_22 (by decide) k) ?_
  refine ST.lift (fun _ _ k => T_istore_n (L' := [(1, .int (nI 0)), (0, .ref 183)]) d_Sc_fold_23 (by decide) rfl k) ?_
  refine ST.lift (fun _ _ k => T_iload_n d_Sc_fold_24 rfl k) ?_
  refine ST.lift (fun _ _ k => T_iconst (v := nI 2) d_Sc_fold_25 (by decide) k) ?_
  refine S_icmp_geN d_Sc_fold_26 rfl (by omega) (by omega) (fun c => by first | exact absurd c (by omega) | exact c.elim | exact absurd c (by decide) | exact absurd (by assumption) c | exact absurd c (by assumption)) (fun _ => ?_)
  refine ST.lift (fun _ _ k => T_aload_n (v := .ref 183) d_Sc_fold_29 rfl (Or.inr ⟨_, rfl⟩) k) ?_
  refine S_getfield d_Sc_fold_30 fg_Sc_9 (w183 _) rfl ?_
  refine ST.lift (fun _ _ k => T_bipush (v := nI 19) d_Sc_fold_33 (by decide) k) ?_
  refine S_laload d_Sc_fold_35 a184 (vp_in_nI (by omega) (by omega)) (fun z1 => ?_)
  refine ST.lift (fun _ _ k => T_lconst (v := 0) d_Sc_fold_36 (by decide) k) ?_
  refine ST.lift (fun _ _ k => T_lcmp d_Sc_fold_37 k) (S_anyi fun z2 => ?_)
  have J46_4 : ST G mi_Sc_fold 46 [(1, .int (nI 0)), (0, .ref 183)] [] v 0 0 Q := by
    refine S_iincN (a := 0) (b := 1) (L' := [(1, .int (nI 1)), (0, .ref 183)]) d_Sc_fold_46 (by decide) rfl rfl rfl ?_
    refine ST.lift (fun _ _ k => T_goto (tgt := 24) d_Sc_fold_49 rfl k) ?_
    refine ST.lift (fun _ _ k => T_iload_n d_Sc_fold_24 rfl k) ?_
    refine ST.lift (fun _ _ k => T_iconst (v := nI 2) d_Sc_fold_25 (by decide) k) ?_
    refine S_icmp_geN d_Sc_fold_26 rfl (by omega) (by omega) (fun c => by first | exact absurd c (by omega) | exact c.elim | exact absurd c (by decide) | exact absurd (by assumption) c | exact absurd c (by assumption)) (fun _ => ?_)
    refine ST.lift (fun _ _ k => T_aload_n (v := .ref 183) d_Sc_fold_29 rfl (Or.inr ⟨_, rfl⟩) k) ?_
    refine S_getfield d_Sc_fold_30 fg_Sc_9 (w183 _) rfl ?_
    refine ST.lift (fun _ _ k => T_bipush (v := nI 19) d_Sc_fold_33 (by decide) k) ?_
    refine S_laload d_Sc_fold_35 a184 (vp_in_nI (by omega) (by omega)) (fun z5 => ?_)
    refine ST.lift (fun _ _ k => T_lconst (v := 0) d_Sc_fold_36 (by decide) k) ?_
    refine ST.lift (fun _ _ k => T_lcmp d_Sc_fold_37 k) (S_anyi fun z6 => ?_)
    have J46_8 : ST G mi_Sc_fold 46 [(1, .int (nI 1)), (0, .ref 183)] [] v 0 0 Q := by
      refine S_iincN (a := 1) (b := 1) (L' := [(1, .int (nI 2)), (0, .ref 183)]) d_Sc_fold_46 (by decide) rfl rfl rfl ?_
      refine ST.lift (fun _ _ k => T_goto (tgt := 24) d_Sc_fold_49 rfl k) ?_
      refine ST.lift (fun _ _ k => T_iload_n d_Sc_fold_24 rfl k) ?_
      refine ST.lift (fun _ _ k => T_iconst (v := nI 2) d_Sc_fold_25 (by decide) k) ?_
      refine S_icmp_geN d_Sc_fold_26 rfl (by omega) (by omega) (fun _ => ?_) (fun c => by first | exact absurd c (by omega) | exact c.elim | exact absurd c (by decide) | exact absurd (by assumption) c | exact absurd c (by assumption))
      exact S_vret d_Sc_fold_52 rfl (by decide) (by decide) hQ
    refine S_if_ge d_Sc_fold_38 rfl (fun c7 => ?_) (fun c7 => ?_)
    · exact J46_8 
    · refine ST.lift (fun _ _ k => T_aload_n (v := .ref 183) d_Sc_fold_41 rfl (Or.inr ⟨_, rfl⟩) k) ?_
      refine ST.lift (fun _ _ k => T_iconst (v := nI 1) d_Sc_fold_42 (by decide) k) ?_
      refine S_virtual (as := [.int (nI 1)]) (rest := []) (b := 183) d_Sc_fold_43 rfl (jw_Sc_addModulus.jo (by decide)) lm_Sc_54 ji_Sc_addModulus js_Sc_addModulus (w183 _) rfl rfl rfl (Nat.le_of_ble_eq_true rfl) (by decide) (by decide) (c_Sc_addModulus G v (nI 1)) (fun r v' hq => ?_)
      rw [hq.1, hq.2]
      clear hq r v'
      show ST G mi_Sc_fold 46 [(1, .int (nI 1)), (0, .ref 183)] [] v 0 0 _
      exact J46_8 
  refine S_if_ge d_Sc_fold_38 rfl (fun c3 => ?_) (fun c3 => ?_)
  · exact J46_4 
  · refine ST.lift (fun _ _ k => T_aload_n (v := .ref 183) d_Sc_fold_41 rfl (Or.inr ⟨_, rfl⟩) k) ?_
    refine ST.lift (fun _ _ k => T_iconst (v := nI 1) d_Sc_fold_42 (by decide) k) ?_
    refine S_virtual (as := [.int (nI 1)]) (rest := []) (b := 183) d_Sc_fold_43 rfl (jw_Sc_addModulus.jo (by decide)) lm_Sc_54 ji_Sc_addModulus js_Sc_addModulus (w183 _) rfl rfl rfl (Nat.le_of_ble_eq_true rfl) (by decide) (by decide) (c_Sc_addModulus G v (nI 1)) (fun r v' hq => ?_)
    rw [hq.1, hq.2]
    clear hq r v'
    show ST G mi_Sc_fold 46 [(1, .int (nI 0)), (0, .ref 183)] [] v 0 0 _
    exact J46_4 
set_option maxRecDepth 100000 in
set_option maxHeartbeats 4000000 in
theorem c_Sc_save (G : GX) (v : Nat → Int32) (to m : Nat) (w_to : K0 ≤ to) (a_to : aB to m) (l_to : m ≤ 2000) (h32 : 32 ≤ m) : CS G mi_Sc_save [.ref 183, .ref to] v (fun r v' => r = none ∧ v' = v) := by
  refine CS.of (by decide) (Nat.le_of_ble_eq_true rfl) ?_
  generalize hQe : (fun (r : Option Value) (v' : Nat → Int32) => r = none ∧ v' = v) = Q
  have hQ : Q none v := by rw [← hQe]; exact ⟨rfl, rfl⟩
  clear hQe
  show ST G mi_Sc_save 0 [(0, .ref 183), (1, .ref to)] [] v 0 0 Q
  refine ST.lift (fun _ _ k => T_lconst (v := 0) d_Sc_save_0 (by decide) k) ?_
  refine ST.lift (fun _ _ k => T_lstore_n (L' := [(2, .long 0), (0, .ref 183), (1, .ref to)]) d_Sc_save_1 (by decide) rfl k) ?_
  refine ST.lift (fun _ _ k => T_iconst (v := nI 0) d_Sc_save_2 (by decide) k) ?_
  refine ST.lift (fun _ _ k => T_istore (L' := [(4, .int (nI 0)), (2, .long 0), (0, .ref 183), (1, .ref to)]) d_Sc_save_3 (by decide) rfl k) ?_
  refine ST.lift (fun _ _ k => T_iconst (v := nI 0) d_Sc_save_5 (by decide) k) ?_
  refine ST.lift (fun _ _ k => T_istore (L' := [(5, .int (nI 0)), (4, .int (nI 0)), (2, .long 0), (0, .ref 183), (1, .ref to)]) d_Sc_save_6 (by decide) rfl k) ?_
  refine ST.lift (fun _ _ k => T_iconst (v := nI 0) d_Sc_save_8 (by decide) k) ?_
  refine ST.lift (fun _ _ k => T_istore (L' := [(6, .int (nI 0)), (5, .int (nI 0)), (4, .int (nI 0)), (2, .long 0), (0, .ref 183), (1, .ref to)]) d_Sc_save_9 (by decide) rfl k) ?_
  refine ST.lift (fun _ _ k => T_iload d_Sc_save_11 rfl k) ?_
  refine ST.lift (fun _ _ k => T_bipush (v := nI 32) d_Sc_save_13 (by decide) k) ?_
  refine S_icmp_geN d_Sc_save_15 rfl (by omega) (by omega) (fun c => by first | exact absurd c (by omega) | exact c.elim | exact absurd c (by decide) | exact absurd (by assumption) c | exact absurd c (by assumption)) (fun _ => ?_)
  refine ST.lift (fun _ _ k => T_iload d_Sc_save_18 rfl k) ?_
  refine ST.lift (fun _ _ k => T_bipush (v := nI 8) d_Sc_save_20 (by decide) k) ?_
  refine S_icmp_geN d_Sc_save_22 rfl (by omega) (by omega) (fun c => by first | exact absurd c (by omega) | exact c.elim | exact absurd c (by decide) | exact absurd (by assumption) c | exact absurd c (by assumption)) (fun _ => ?_)
  refine ST.lift (fun _ _ k => T_lload_n d_Sc_save_25 rfl k) ?_
  refine ST.lift (fun _ _ k => T_aload_n (v := .ref 183) d_Sc_save_26 rfl (Or.inr ⟨_, rfl⟩) k) ?_
  refine S_getfield d_Sc_save_27 fg_Sc_9 (w183 _) rfl ?_
  refine ST.lift (fun _ _ k => T_iload d_Sc_save_30 rfl k) ?_
  refine S_laload d_Sc_save_32 a184 (vp_in_nI (by omega) (by omega)) (fun z1 => ?_)
  refine ST.lift (fun _ _ k => T_iload d_Sc_save_33 rfl k) ?_
  refine ST.lift (fun _ _ k => T_lshl d_Sc_save_35 k) (S_anyl fun z2 => ?_)
  refine ST.lift (fun _ _ k => T_lor d_Sc_save_36 k) (S_anyl fun z3 => ?_)
  refine ST.lift (fun _ _ k => T_lstore_n (L' := [(2, .long z3), (6, .int (nI 0)), (5, .int (nI 0)), (4, .int (nI 0)), (0, .ref 183), (1, .ref to)]) d_Sc_save_37 (by decide) rfl k) ?_
  refine S_iincN (a := 0) (b := 1) (L' := [(5, .int (nI 1)), (2, .long z3), (6, .int (nI 0)), (4, .int (nI 0)), (0, .ref 183), (1, .ref to)]) d_Sc_save_38 (by decide) rfl rfl rfl ?_
  refine S_iincN (a := 0) (b := 28) (L' := [(4, .int (nI 28)), (5, .int (nI 1)), (2, .long z3), (6, .int (nI 0)), (0, .ref 183), (1, .ref to)]) d_Sc_save_41 (by decide) rfl rfl rfl ?_
  refine ST.lift (fun _ _ k => T_aload_n (v := .ref to) d_Sc_save_44 rfl (Or.inr ⟨_, rfl⟩) k) ?_
  refine ST.lift (fun _ _ k => T_iload d_Sc_save_45 rfl k) ?_
  refine ST.lift (fun _ _ k => T_lload_n d_Sc_save_47 rfl k) ?_
  refine ST.lift (fun _ _ k => T_l2i d_Sc_save_48 k) (S_anyi fun z4 => ?_)
  refine ST.lift (fun _ _ k => T_i2b d_Sc_save_49 k) (S_anyi fun z5 => ?_)
  refine S_bastore d_Sc_save_50 w_to a_to (vp_in_nI (by omega) (by omega)) ?_
  refine ST.lift (fun _ _ k => T_lload_n d_Sc_save_51 rfl k) ?_
  refine ST.lift (fun _ _ k => T_bipush (v := nI 8) d_Sc_save_52 (by decide) k) ?_
  refine ST.lift (fun _ _ k => T_lshr d_Sc_save_54 k) (S_anyl fun z6 => ?_)
  refine ST.lift (fun _ _ k => T_lstore_n (L' := [(2, .long z6), (4, .int (nI 28)), (5, .int (nI 1)), (6, .int (nI 0)), (0, .ref 183), (1, .ref to)]) d_Sc_save_55 (by decide) rfl k) ?_
  refine ST.lift (fun _ _ k => T_iinc (x := nI 28) (L' := [(4, .int (nI 20)), (2, .long z6), (5, .int (nI 1)), (6, .int (nI 0)), (0, .ref 183), (1, .ref to)]) d_Sc_save_56 (by decide) rfl (by rw [show nI 28 + Int32.ofInt (-8) = nI 20 by decide]; rfl) k) ?_
  refine S_iincN (a := 0) (b := 1) (L' := [(6, .int (nI 1)), (4, .int (nI 20)), (2, .long z6), (5, .int (nI 1)), (0, .ref 183), (1, .ref to)]) d_Sc_save_59 (by decide) rfl rfl rfl ?_
  refine ST.lift (fun _ _ k => T_goto (tgt := 11) d_Sc_save_62 rfl k) ?_
  refine ST.lift (fun _ _ k => T_iload d_Sc_save_11 rfl k) ?_
  refine ST.lift (fun _ _ k => T_bipush (v := nI 32) d_Sc_save_13 (by decide) k) ?_
  refine S_icmp_geN d_Sc_save_15 rfl (by omega) (by omega) (fun c => by first | exact absurd c (by omega) | exact c.elim | exact absurd c (by decide) | exact absurd (by assumption) c | exact absurd c (by assumption)) (fun _ => ?_)
  refine ST.lift (fun _ _ k => T_iload d_Sc_save_18 rfl k) ?_
  refine ST.lift (fun _ _ k => T_bipush (v := nI 8) d_Sc_save_20 (by decide) k) ?_
  refine S_icmp_geN d_Sc_save_22 rfl (by omega) (by omega) (fun _ => ?_) (fun c => by first | exact absurd c (by omega) | exact c.elim | exact absurd c (by decide) | exact absurd (by assumption) c | exact absurd c (by assumption))
  refine ST.lift (fun _ _ k => T_aload_n (v := .ref to) d_Sc_save_44 rfl (Or.inr ⟨_, rfl⟩) k) ?_
  refine ST.lift (fun _ _ k => T_iload d_Sc_save_45 rfl k) ?_
  refine ST.lift (fun _ _ k => T_lload_n d_Sc_save_47 rfl k) ?_
  refine ST.lift (fun _ _ k => T_l2i d_Sc_save_48 k) (S_anyi fun z7 => ?_)
  refine ST.lift (fun _ _ k => T_i2b d_Sc_save_49 k) (S_anyi fun z8 => ?_)
  refine S_bastore d_Sc_save_50 w_to a_to (vp_in_nI (by omega) (by omega)) ?_
  refine ST.lift (fun _ _ k => T_lload_n d_Sc_save_51 rfl k) ?_
  refine ST.lift (fun _ _ k => T_bipush (v := nI 8) d_Sc_save_52 (by decide) k) ?_
  refine ST.lift (fun _ _ k => T_lshr d_Sc_save_54 k) (S_anyl fun z9 => ?_)
  refine ST.lift (fun _ _ k => T_lstore_n (L' := [(2, .long z9), (6, .int (nI 1)), (4, .int (nI 20)), (5, .int (nI 1)), (0, .ref 183), (1, .ref to)]) d_Sc_save_55 (by decide) rfl k) ?_
  refine ST.lift (fun _ _ k => T_iinc (x := nI 20) (L' := [(4, .int (nI 12)), (2, .long z9), (6, .int (nI 1)), (5, .int (nI 1)), (0, .ref 183), (1, .ref to)]) d_Sc_save_56 (by decide) rfl (by rw [show nI 20 + Int32.ofInt (-8) = nI 12 by decide]; rfl) k) ?_
  refine S_iincN (a := 1) (b := 1) (L' := [(6, .int (nI 2)), (4, .int (nI 12)), (2, .long z9), (5, .int (nI 1)), (0, .ref 183), (1, .ref to)]) d_Sc_save_59 (by decide) rfl rfl rfl ?_
  refine ST.lift (fun _ _ k => T_goto (tgt := 11) d_Sc_save_62 rfl k) ?_
  refine ST.lift (fun _ _ k => T_iload d_Sc_save_11 rfl k) ?_
  refine ST.lift (fun _ _ k => T_bipush (v := nI 32) d_Sc_save_13 (by decide) k) ?_
  refine S_icmp_geN d_Sc_save_15 rfl (by omega) (by omega) (fun c => by first | exact absurd c (by omega) | exact c.elim | exact absurd c (by decide) | exact absurd (by assumption) c | exact absurd c (by assumption)) (fun _ => ?_)
  refine ST.lift (fun _ _ k => T_iload d_Sc_save_18 rfl k) ?_
  refine ST.lift (fun _ _ k => T_bipush (v := nI 8) d_Sc_save_20 (by decide) k) ?_
  refine S_icmp_geN d_Sc_save_22 rfl (by omega) (by omega) (fun _ => ?_) (fun c => by first | exact absurd c (by omega) | exact c.elim | exact absurd c (by decide) | exact absurd (by assumption) c | exact absurd c (by assumption))
  refine ST.lift (fun _ _ k => T_aload_n (v := .ref to) d_Sc_save_44 rfl (Or.inr ⟨_, rfl⟩) k) ?_
  refine ST.lift (fun _ _ k => T_iload d_Sc_save_45 rfl k) ?_
  refine ST.lift (fun _ _ k => T_lload_n d_Sc_save_47 rfl k) ?_
  refine ST.lift (fun _ _ k => T_l2i d_Sc_save_48 k) (S_anyi fun z10 => ?_)
  refine ST.lift (fun _ _ k => T_i2b d_Sc_save_49 k) (S_anyi fun z11 => ?_)
  refine S_bastore d_Sc_save_50 w_to a_to (vp_in_nI (by omega) (by omega)) ?_
  refine ST.lift (fun _ _ k => T_lload_n d_Sc_save_51 rfl k) ?_
  refine ST.lift (fun _ _ k => T_bipush (v := nI 8) d_Sc_save_52 (by decide) k) ?_
  refine ST.lift (fun _ _ k => T_lshr d_Sc_save_54 k) (S_anyl fun z12 => ?_)
  refine ST.lift (fun _ _ k => T_lstore_n (L' := [(2, .long z12), (6, .int (nI 2)), (4, .int (nI 12)), (5, .int (nI 1)), (0, .ref 183), (1, .ref to)]) d_Sc_save_55 (by decide) rfl k) ?_
  refine ST.lift (fun _ _ k => T_iinc (x := nI 12) (L' := [(4, .int (nI 4)), (2, .long z12), (6, .int (nI 2)), (5, .int (nI 1)), (0, .ref 183), (1, .ref to)]) d_Sc_save_56 (by decide) rfl (by rw [show nI 12 + Int32.ofInt (-8) = nI 4 by decide]; rfl) k) ?_
  refine S_iincN (a := 2) (b := 1) (L' := [(6, .int (nI 3)), (4, .int (nI 4)), (2, .long z12), (5, .int (nI 1)), (0, .ref 183), (1, .ref to)]) d_Sc_save_59 (by decide) rfl rfl rfl ?_
  refine ST.lift (fun _ _ k => T_goto (tgt := 11) d_Sc_save_62 rfl k) ?_
  refine ST.lift (fun _ _ k => T_iload d_Sc_save_11 rfl k) ?_
  refine ST.lift (fun _ _ k => T_bipush (v := nI 32) d_Sc_save_13 (by decide) k) ?_
  refine S_icmp_geN d_Sc_save_15 rfl (by omega) (by omega) (fun c => by first | exact absurd c (by omega) | exact c.elim | exact absurd c (by decide) | exact absurd (by assumption) c | exact absurd c (by assumption)) (fun _ => ?_)
  refine ST.lift (fun _ _ k => T_iload d_Sc_save_18 rfl k) ?_
  refine ST.lift (fun _ _ k => T_bipush (v := nI 8) d_Sc_save_20 (by decide) k) ?_
  refine S_icmp_geN d_Sc_save_22 rfl (by omega) (by omega) (fun c => by first | exact absurd c (by omega) | exact c.elim | exact absurd c (by decide) | exact absurd (by assumption) c | exact absurd c (by assumption)) (fun _ => ?_)
  refine ST.lift (fun _ _ k => T_lload_n d_Sc_save_25 rfl k) ?_
  refine ST.lift (fun _ _ k => T_aload_n (v := .ref 183) d_Sc_save_26 rfl (Or.inr ⟨_, rfl⟩) k) ?_
  refine S_getfield d_Sc_save_27 fg_Sc_9 (w183 _) rfl ?_
  refine ST.lift (fun _ _ k => T_iload d_Sc_save_30 rfl k) ?_
  refine S_laload d_Sc_save_32 a184 (vp_in_nI (by omega) (by omega)) (fun z13 => ?_)
  refine ST.lift (fun _ _ k => T_iload d_Sc_save_33 rfl k) ?_
  refine ST.lift (fun _ _ k => T_lshl d_Sc_save_35 k) (S_anyl fun z14 => ?_)
  refine ST.lift (fun _ _ k => T_lor d_Sc_save_36 k) (S_anyl fun z15 => ?_)
  refine ST.lift (fun _ _ k => T_lstore_n (L' := [(2, .long z15), (6, .int (nI 3)), (4, .int (nI 4)), (5, .int (nI 1)), (0, .ref 183), (1, .ref to)]) d_Sc_save_37 (by decide) rfl k) ?_
  refine S_iincN (a := 1) (b := 1) (L' := [(5, .int (nI 2)), (2, .long z15), (6, .int (nI 3)), (4, .int (nI 4)), (0, .ref 183), (1, .ref to)]) d_Sc_save_38 (by decide) rfl rfl rfl ?_
  refine S_iincN (a := 4) (b := 28) (L' := [(4, .int (nI 32)), (5, .int (nI 2)), (2, .long z15), (6, .int (nI 3)), (0, .ref 183), (1, .ref to)]) d_Sc_save_41 (by decide) rfl rfl rfl ?_
  refine ST.lift (fun _ _ k => T_aload_n (v := .ref to) d_Sc_save_44 rfl (Or.inr ⟨_, rfl⟩) k) ?_
  refine ST.lift (fun _ _ k => T_iload d_Sc_save_45 rfl k) ?_
  refine ST.lift (fun _ _ k => T_lload_n d_Sc_save_47 rfl k) ?_
  refine ST.lift (fun _ _ k => T_l2i d_Sc_save_48 k) (S_anyi fun z16 => ?_)
  refine ST.lift (fun _ _ k => T_i2b d_Sc_save_49 k) (S_anyi fun z17 => ?_)
  refine S_bastore d_Sc_save_50 w_to a_to (vp_in_nI (by omega) (by omega)) ?_
  refine ST.lift (fun _ _ k => T_lload_n d_Sc_save_51 rfl k) ?_
  refine ST.lift (fun _ _ k => T_bipush (v := nI 8) d_Sc_save_52 (by decide) k) ?_
  refine ST.lift (fun _ _ k => T_lshr d_Sc_save_54 k) (S_anyl fun z18 => ?_)
  refine ST.lift (fun _ _ k => T_lstore_n (L' := [(2, .long z18), (4, .int (nI 32)), (5, .int (nI 2)), (6, .int (nI 3)), (0, .ref 183), (1, .ref to)]) d_Sc_save_55 (by decide) rfl k) ?_
  refine ST.lift (fun _ _ k => T_iinc (x := nI 32) (L' := [(4, .int (nI 24)), (2, .long z18), (5, .int (nI 2)), (6, .int (nI 3)), (0, .ref 183), (1, .ref to)]) d_Sc_save_56 (by decide) rfl (by rw [show nI 32 + Int32.ofInt (-8) = nI 24 by decide]; rfl) k) ?_
  refine S_iincN (a := 3) (b := 1) (L' := [(6, .int (nI 4)), (4, .int (nI 24)), (2, .long z18), (5, .int (nI 2)), (0, .ref 183), (1, .ref to)]) d_Sc_save_59 (by decide) rfl rfl rfl ?_
  refine ST.lift (fun _ _ k => T_goto (tgt := 11) d_Sc_save_62 rfl k) ?_
  refine ST.lift (fun _ _ k => T_iload d_Sc_save_11 rfl k) ?_
  refine ST.lift (fun _ _ k => T_bipush (v := nI 32) d_Sc_save_13 (by decide) k) ?_
  refine S_icmp_geN d_Sc_save_15 rfl (by omega) (by omega) (fun c => by first | exact absurd c (by omega) | exact c.elim | exact absurd c (by decide) | exact absurd (by assumption) c | exact absurd c (by assumption)) (fun _ => ?_)
  refine ST.lift (fun _ _ k => T_iload d_Sc_save_18 rfl k) ?_
  refine ST.lift (fun _ _ k => T_bipush (v := nI 8) d_Sc_save_20 (by decide) k) ?_
  refine S_icmp_geN d_Sc_save_22 rfl (by omega) (by omega) (fun _ => ?_) (fun c => by first | exact absurd c (by omega) | exact c.elim | exact absurd c (by decide) | exact absurd (by assumption) c | exact absurd c (by assumption))
  refine ST.lift (fun _ _ k => T_aload_n (v := .ref to) d_Sc_save_44 rfl (Or.inr ⟨_, rfl⟩) k) ?_
  refine ST.lift (fun _ _ k => T_iload d_Sc_save_45 rfl k) ?_
  refine ST.lift (fun _ _ k => T_lload_n d_Sc_save_47 rfl k) ?_
  refine ST.lift (fun _ _ k => T_l2i d_Sc_save_48 k) (S_anyi fun z19 => ?_)
  refine ST.lift (fun _ _ k => T_i2b d_Sc_save_49 k) (S_anyi fun z20 => ?_)
  refine S_bastore d_Sc_save_50 w_to a_to (vp_in_nI (by omega) (by omega)) ?_
  refine ST.lift (fun _ _ k => T_lload_n d_Sc_save_51 rfl k) ?_
  refine ST.lift (fun _ _ k => T_bipush (v := nI 8) d_Sc_save_52 (by decide) k) ?_
  refine ST.lift (fun _ _ k => T_lshr d_Sc_save_54 k) (S_anyl fun z21 => ?_)
  refine ST.lift (fun _ _ k => T_lstore_n (L' := [(2, .long z21), (6, .int (nI 4)), (4, .int (nI 24)), (5, .int (nI 2)), (0, .ref 183), (1, .ref to)]) d_Sc_save_55 (by decide) rfl k) ?_
  refine ST.lift (fun _ _ k => T_iinc (x := nI 24) (L' := [(4, .int (nI 16)), (2, .long z21), (6, .int (nI 4)), (5, .int (nI 2)), (0, .ref 183), (1, .ref to)]) d_Sc_save_56 (by decide) rfl (by rw [show nI 24 + Int32.ofInt (-8) = nI 16 by decide]; rfl) k) ?_
  refine S_iincN (a := 4) (b := 1) (L' := [(6, .int (nI 5)), (4, .int (nI 16)), (2, .long z21), (5, .int (nI 2)), (0, .ref 183), (1, .ref to)]) d_Sc_save_59 (by decide) rfl rfl rfl ?_
  refine ST.lift (fun _ _ k => T_goto (tgt := 11) d_Sc_save_62 rfl k) ?_
  refine ST.lift (fun _ _ k => T_iload d_Sc_save_11 rfl k) ?_
  refine ST.lift (fun _ _ k => T_bipush (v := nI 32) d_Sc_save_13 (by decide) k) ?_
  refine S_icmp_geN d_Sc_save_15 rfl (by omega) (by omega) (fun c => by first | exact absurd c (by omega) | exact c.elim | exact absurd c (by decide) | exact absurd (by assumption) c | exact absurd c (by assumption)) (fun _ => ?_)
  refine ST.lift (fun _ _ k => T_iload d_Sc_save_18 rfl k) ?_
  refine ST.lift (fun _ _ k => T_bipush (v := nI 8) d_Sc_save_20 (by decide) k) ?_
  refine S_icmp_geN d_Sc_save_22 rfl (by omega) (by omega) (fun _ => ?_) (fun c => by first | exact absurd c (by omega) | exact c.elim | exact absurd c (by decide) | exact absurd (by assumption) c | exact absurd c (by assumption))
  refine ST.lift (fun _ _ k => T_aload_n (v := .ref to) d_Sc_save_44 rfl (Or.inr ⟨_, rfl⟩) k) ?_
  refine ST.lift (fun _ _ k => T_iload d_Sc_save_45 rfl k) ?_
  refine ST.lift (fun _ _ k => T_lload_n d_Sc_save_47 rfl k) ?_
  refine ST.lift (fun _ _ k => T_l2i d_Sc_save_48 k) (S_anyi fun z22 => ?_)
  refine ST.lift (fun _ _ k => T_i2b d_Sc_save_49 k) (S_anyi fun z23 => ?_)
  refine S_bastore d_Sc_save_50 w_to a_to (vp_in_nI (by omega) (by omega)) ?_
  refine ST.lift (fun _ _ k => T_lload_n d_Sc_save_51 rfl k) ?_
  refine ST.lift (fun _ _ k => T_bipush (v := nI 8) d_Sc_save_52 (by decide) k) ?_
  refine ST.lift (fun _ _ k => T_lshr d_Sc_save_54 k) (S_anyl fun z24 => ?_)
  refine ST.lift (fun _ _ k => T_lstore_n (L' := [(2, .long z24), (6, .int (nI 5)), (4, .int (nI 16)), (5, .int (nI 2)), (0, .ref 183), (1, .ref to)]) d_Sc_save_55 (by decide) rfl k) ?_
  refine ST.lift (fun _ _ k => T_iinc (x := nI 16) (L' := [(4, .int (nI 8)), (2, .long z24), (6, .int (nI 5)), (5, .int (nI 2)), (0, .ref 183), (1, .ref to)]) d_Sc_save_56 (by decide) rfl (by rw [show nI 16 + Int32.ofInt (-8) = nI 8 by decide]; rfl) k) ?_
  refine S_iincN (a := 5) (b := 1) (L' := [(6, .int (nI 6)), (4, .int (nI 8)), (2, .long z24), (5, .int (nI 2)), (0, .ref 183), (1, .ref to)]) d_Sc_save_59 (by decide) rfl rfl rfl ?_
  refine ST.lift (fun _ _ k => T_goto (tgt := 11) d_Sc_save_62 rfl k) ?_
  refine ST.lift (fun _ _ k => T_iload d_Sc_save_11 rfl k) ?_
  refine ST.lift (fun _ _ k => T_bipush (v := nI 32) d_Sc_save_13 (by decide) k) ?_
  refine S_icmp_geN d_Sc_save_15 rfl (by omega) (by omega) (fun c => by first | exact absurd c (by omega) | exact c.elim | exact absurd c (by decide) | exact absurd (by assumption) c | exact absurd c (by assumption)) (fun _ => ?_)
  refine ST.lift (fun _ _ k => T_iload d_Sc_save_18 rfl k) ?_
  refine ST.lift (fun _ _ k => T_bipush (v := nI 8) d_Sc_save_20 (by decide) k) ?_
  refine S_icmp_geN d_Sc_save_22 rfl (by omega) (by omega) (fun _ => ?_) (fun c => by first | exact absurd c (by omega) | exact c.elim | exact absurd c (by decide) | exact absurd (by assumption) c | exact absurd c (by assumption))
  refine ST.lift (fun _ _ k => T_aload_n (v := .ref to) d_Sc_save_44 rfl (Or.inr ⟨_, rfl⟩) k) ?_
  refine ST.lift (fun _ _ k => T_iload d_Sc_save_45 rfl k) ?_
  refine ST.lift (fun _ _ k => T_lload_n d_Sc_save_47 rfl k) ?_
  refine ST.lift (fun _ _ k => T_l2i d_Sc_save_48 k) (S_anyi fun z25 => ?_)
  refine ST.lift (fun _ _ k => T_i2b d_Sc_save_49 k) (S_anyi fun z26 => ?_)
  refine S_bastore d_Sc_save_50 w_to a_to (vp_in_nI (by omega) (by omega)) ?_
  refine ST.lift (fun _ _ k => T_lload_n d_Sc_save_51 rfl k) ?_
  refine ST.lift (fun _ _ k => T_bipush (v := nI 8) d_Sc_save_52 (by decide) k) ?_
  refine ST.lift (fun _ _ k => T_lshr d_Sc_save_54 k) (S_anyl fun z27 => ?_)
  refine ST.lift (fun _ _ k => T_lstore_n (L' := [(2, .long z27), (6, .int (nI 6)), (4, .int (nI 8)), (5, .int (nI 2)), (0, .ref 183), (1, .ref to)]) d_Sc_save_55 (by decide) rfl k) ?_
  refine ST.lift (fun _ _ k => T_iinc (x := nI 8) (L' := [(4, .int (nI 0)), (2, .long z27), (6, .int (nI 6)), (5, .int (nI 2)), (0, .ref 183), (1, .ref to)]) d_Sc_save_56 (by decide) rfl (by rw [show nI 8 + Int32.ofInt (-8) = nI 0 by decide]; rfl) k) ?_
  refine S_iincN (a := 6) (b := 1) (L' := [(6, .int (nI 7)), (4, .int (nI 0)), (2, .long z27), (5, .int (nI 2)), (0, .ref 183), (1, .ref to)]) d_Sc_save_59 (by decide) rfl rfl rfl ?_
  refine ST.lift (fun _ _ k => T_goto (tgt := 11) d_Sc_save_62 rfl k) ?_
  refine ST.lift (fun _ _ k => T_iload d_Sc_save_11 rfl k) ?_
  refine ST.lift (fun _ _ k => T_bipush (v := nI 32) d_Sc_save_13 (by decide) k) ?_
  refine S_icmp_geN d_Sc_save_15 rfl (by omega) (by omega) (fun c => by first | exact absurd c (by omega) | exact c.elim | exact absurd c (by decide) | exact absurd (by assumption) c | exact absurd c (by assumption)) (fun _ => ?_)
  refine ST.lift (fun _ _ k => T_iload d_Sc_save_18 rfl k) ?_
  refine ST.lift (fun _ _ k => T_bipush (v := nI 8) d_Sc_save_20 (by decide) k) ?_
  refine S_icmp_geN d_Sc_save_22 rfl (by omega) (by omega) (fun c => by first | exact absurd c (by omega) | exact c.elim | exact absurd c (by decide) | exact absurd (by assumption) c | exact absurd c (by assumption)) (fun _ => ?_)
  refine ST.lift (fun _ _ k => T_lload_n d_Sc_save_25 rfl k) ?_
  refine ST.lift (fun _ _ k => T_aload_n (v := .ref 183) d_Sc_save_26 rfl (Or.inr ⟨_, rfl⟩) k) ?_
  refine S_getfield d_Sc_save_27 fg_Sc_9 (w183 _) rfl ?_
  refine ST.lift (fun _ _ k => T_iload d_Sc_save_30 rfl k) ?_
  refine S_laload d_Sc_save_32 a184 (vp_in_nI (by omega) (by omega)) (fun z28 => ?_)
  refine ST.lift (fun _ _ k => T_iload d_Sc_save_33 rfl k) ?_
  refine ST.lift (fun _ _ k => T_lshl d_Sc_save_35 k) (S_anyl fun z29 => ?_)
  refine ST.lift (fun _ _ k => T_lor d_Sc_save_36 k) (S_anyl fun z30 => ?_)
  refine ST.lift (fun _ _ k => T_lstore_n (L' := [(2, .long z30), (6, .int (nI 7)), (4, .int (nI 0)), (5, .int (nI 2)), (0, .ref 183), (1, .ref to)]) d_Sc_save_37 (by decide) rfl k) ?_
  refine S_iincN (a := 2) (b := 1) (L' := [(5, .int (nI 3)), (2, .long z30), (6, .int (nI 7)), (4, .int (nI 0)), (0, .ref 183), (1, .ref to)]) d_Sc_save_38 (by decide) rfl rfl rfl ?_
  refine S_iincN (a := 0) (b := 28) (L' := [(4, .int (nI 28)), (5, .int (nI 3)), (2, .long z30), (6, .int (nI 7)), (0, .ref 183), (1, .ref to)]) d_Sc_save_41 (by decide) rfl rfl rfl ?_
  refine ST.lift (fun _ _ k => T_aload_n (v := .ref to) d_Sc_save_44 rfl (Or.inr ⟨_, rfl⟩) k) ?_
  refine ST.lift (fun _ _ k => T_iload d_Sc_save_45 rfl k) ?_
  refine ST.lift (fun _ _ k => T_lload_n d_Sc_save_47 rfl k) ?_
  refine ST.lift (fun _ _ k => T_l2i d_Sc_save_48 k) (S_anyi fun z31 => ?_)
  refine ST.lift (fun _ _ k => T_i2b d_Sc_save_49 k) (S_anyi fun z32 => ?_)
  refine S_bastore d_Sc_save_50 w_to a_to (vp_in_nI (by omega) (by omega)) ?_
  refine ST.lift (fun _ _ k => T_lload_n d_Sc_save_51 rfl k) ?_
  refine ST.lift (fun _ _ k => T_bipush (v := nI 8) d_Sc_save_52 (by decide) k) ?_
  refine ST.lift (fun _ _ k => T_lshr d_Sc_save_54 k) (S_anyl fun z33 => ?_)
  refine ST.lift (fun _ _ k => T_lstore_n (L' := [(2, .long z33), (4, .int (nI 28)), (5, .int (nI 3)), (6, .int (nI 7)), (0, .ref 183), (1, .ref to)]) d_Sc_save_55 (by decide) rfl k) ?_
  refine ST.lift (fun _ _ k => T_iinc (x := nI 28) (L' := [(4, .int (nI 20)), (2, .long z33), (5, .int (nI 3)), (6, .int (nI 7)), (0, .ref 183), (1, .ref to)]) d_Sc_save_56 (by decide) rfl (by rw [show nI 28 + Int32.ofInt (-8) = nI 20 by decide]; rfl) k) ?_
  refine S_iincN (a := 7) (b := 1) (L' := [(6, .int (nI 8)), (4, .int (nI 20)), (2, .long z33), (5, .int (nI 3)), (0, .ref 183), (1, .ref to)]) d_Sc_save_59 (by decide) rfl rfl rfl ?_
  refine ST.lift (fun _ _ k => T_goto (tgt := 11) d_Sc_save_62 rfl k) ?_
  refine ST.lift (fun _ _ k => T_iload d_Sc_save_11 rfl k) ?_
  refine ST.lift (fun _ _ k => T_bipush (v := nI 32) d_Sc_save_13 (by decide) k) ?_
  refine S_icmp_geN d_Sc_save_15 rfl (by omega) (by omega) (fun c => by first | exact absurd c (by omega) | exact c.elim | exact absurd c (by decide) | exact absurd (by assumption) c | exact absurd c (by assumption)) (fun _ => ?_)
  refine ST.lift (fun _ _ k => T_iload d_Sc_save_18 rfl k) ?_
  refine ST.lift (fun _ _ k => T_bipush (v := nI 8) d_Sc_save_20 (by decide) k) ?_
  refine S_icmp_geN d_Sc_save_22 rfl (by omega) (by omega) (fun _ => ?_) (fun c => by first | exact absurd c (by omega) | exact c.elim | exact absurd c (by decide) | exact absurd (by assumption) c | exact absurd c (by assumption))
  refine ST.lift (fun _ _ k => T_aload_n (v := .ref to) d_Sc_save_44 rfl (Or.inr ⟨_, rfl⟩) k) ?_
  refine ST.lift (fun _ _ k => T_iload d_Sc_save_45 rfl k) ?_
  refine ST.lift (fun _ _ k => T_lload_n d_Sc_save_47 rfl k) ?_
  refine ST.lift (fun _ _ k => T_l2i d_Sc_save_48 k) (S_anyi fun z34 => ?_)
  refine ST.lift (fun _ _ k => T_i2b d_Sc_save_49 k) (S_anyi fun z35 => ?_)
  refine S_bastore d_Sc_save_50 w_to a_to (vp_in_nI (by omega) (by omega)) ?_
  refine ST.lift (fun _ _ k => T_lload_n d_Sc_save_51 rfl k) ?_
  refine ST.lift (fun _ _ k => T_bipush (v := nI 8) d_Sc_save_52 (by decide) k) ?_
  refine ST.lift (fun _ _ k => T_lshr d_Sc_save_54 k) (S_anyl fun z36 => ?_)
  refine ST.lift (fun _ _ k => T_lstore_n (L' := [(2, .long z36), (6, .int (nI 8)), (4, .int (nI 20)), (5, .int (nI 3)), (0, .ref 183), (1, .ref to)]) d_Sc_save_55 (by decide) rfl k) ?_
  refine ST.lift (fun _ _ k => T_iinc (x := nI 20) (L' := [(4, .int (nI 12)), (2, .long z36), (6, .int (nI 8)), (5, .int (nI 3)), (0, .ref 183), (1, .ref to)]) d_Sc_save_56 (by decide) rfl (by rw [show nI 20 + Int32.ofInt (-8) = nI 12 by decide]; rfl) k) ?_
  refine S_iincN (a := 8) (b := 1) (L' := [(6, .int (nI 9)), (4, .int (nI 12)), (2, .long z36), (5, .int (nI 3)), (0, .ref 183), (1, .ref to)]) d_Sc_save_59 (by decide) rfl rfl rfl ?_
  refine ST.lift (fun _ _ k => T_goto (tgt := 11) d_Sc_save_62 rfl k) ?_
  refine ST.lift (fun _ _ k => T_iload d_Sc_save_11 rfl k) ?_
  refine ST.lift (fun _ _ k => T_bipush (v := nI 32) d_Sc_save_13 (by decide) k) ?_
  refine S_icmp_geN d_Sc_save_15 rfl (by omega) (by omega) (fun c => by first | exact absurd c (by omega) | exact c.elim | exact absurd c (by decide) | exact absurd (by assumption) c | exact absurd c (by assumption)) (fun _ => ?_)
  refine ST.lift (fun _ _ k => T_iload d_Sc_save_18 rfl k) ?_
  refine ST.lift (fun _ _ k => T_bipush (v := nI 8) d_Sc_save_20 (by decide) k) ?_
  refine S_icmp_geN d_Sc_save_22 rfl (by omega) (by omega) (fun _ => ?_) (fun c => by first | exact absurd c (by omega) | exact c.elim | exact absurd c (by decide) | exact absurd (by assumption) c | exact absurd c (by assumption))
  refine ST.lift (fun _ _ k => T_aload_n (v := .ref to) d_Sc_save_44 rfl (Or.inr ⟨_, rfl⟩) k) ?_
  refine ST.lift (fun _ _ k => T_iload d_Sc_save_45 rfl k) ?_
  refine ST.lift (fun _ _ k => T_lload_n d_Sc_save_47 rfl k) ?_
  refine ST.lift (fun _ _ k => T_l2i d_Sc_save_48 k) (S_anyi fun z37 => ?_)
  refine ST.lift (fun _ _ k => T_i2b d_Sc_save_49 k) (S_anyi fun z38 => ?_)
  refine S_bastore d_Sc_save_50 w_to a_to (vp_in_nI (by omega) (by omega)) ?_
  refine ST.lift (fun _ _ k => T_lload_n d_Sc_save_51 rfl k) ?_
  refine ST.lift (fun _ _ k => T_bipush (v := nI 8) d_Sc_save_52 (by decide) k) ?_
  refine ST.lift (fun _ _ k => T_lshr d_Sc_save_54 k) (S_anyl fun z39 => ?_)
  refine ST.lift (fun _ _ k => T_lstore_n (L' := [(2, .long z39), (6, .int (nI 9)), (4, .int (nI 12)), (5, .int (nI 3)), (0, .ref 183), (1, .ref to)]) d_Sc_save_55 (by decide) rfl k) ?_
  refine ST.lift (fun _ _ k => T_iinc (x := nI 12) (L' := [(4, .int (nI 4)), (2, .long z39), (6, .int (nI 9)), (5, .int (nI 3)), (0, .ref 183), (1, .ref to)]) d_Sc_save_56 (by decide) rfl (by rw [show nI 12 + Int32.ofInt (-8) = nI 4 by decide]; rfl) k) ?_
  refine S_iincN (a := 9) (b := 1) (L' := [(6, .int (nI 10)), (4, .int (nI 4)), (2, .long z39), (5, .int (nI 3)), (0, .ref 183), (1, .ref to)]) d_Sc_save_59 (by decide) rfl rfl rfl ?_
  refine ST.lift (fun _ _ k => T_goto (tgt := 11) d_Sc_save_62 rfl k) ?_
  refine ST.lift (fun _ _ k => T_iload d_Sc_save_11 rfl k) ?_
  refine ST.lift (fun _ _ k => T_bipush (v := nI 32) d_Sc_save_13 (by decide) k) ?_
  refine S_icmp_geN d_Sc_save_15 rfl (by omega) (by omega) (fun c => by first | exact absurd c (by omega) | exact c.elim | exact absurd c (by decide) | exact absurd (by assumption) c | exact absurd c (by assumption)) (fun _ => ?_)
  refine ST.lift (fun _ _ k => T_iload d_Sc_save_18 rfl k) ?_
  refine ST.lift (fun _ _ k => T_bipush (v := nI 8) d_Sc_save_20 (by decide) k) ?_
  refine S_icmp_geN d_Sc_save_22 rfl (by omega) (by omega) (fun c => by first | exact absurd c (by omega) | exact c.elim | exact absurd c (by decide) | exact absurd (by assumption) c | exact absurd c (by assumption)) (fun _ => ?_)
  refine ST.lift (fun _ _ k => T_lload_n d_Sc_save_25 rfl k) ?_
  refine ST.lift (fun _ _ k => T_aload_n (v := .ref 183) d_Sc_save_26 rfl (Or.inr ⟨_, rfl⟩) k) ?_
  refine S_getfield d_Sc_save_27 fg_Sc_9 (w183 _) rfl ?_
  refine ST.lift (fun _ _ k => T_iload d_Sc_save_30 rfl k) ?_
  refine S_laload d_Sc_save_32 a184 (vp_in_nI (by omega) (by omega)) (fun z40 => ?_)
  refine ST.lift (fun _ _ k => T_iload d_Sc_save_33 rfl k) ?_
  refine ST.lift (fun _ _ k => T_lshl d_Sc_save_35 k) (S_anyl fun z41 => ?_)
  refine ST.lift (fun _ _ k => T_lor d_Sc_save_36 k) (S_anyl fun z42 => ?_)
  refine ST.lift (fun _ _ k => T_lstore_n (L' := [(2, .long z42), (6, .int (nI 10)), (4, .int (nI 4)), (5, .int (nI 3)), (0, .ref 183), (1, .ref to)]) d_Sc_save_37 (by decide) rfl k) ?_
  refine S_iincN (a := 3) (b := 1) (L' := [(5, .int (nI 4)), (2, .long z42), (6, .int (nI 10)), (4, .int (nI 4)), (0, .ref 183), (1, .ref to)]) d_Sc_save_38 (by decide) rfl rfl rfl ?_
  refine S_iincN (a := 4) (b := 28) (L' := [(4, .int (nI 32)), (5, .int (nI 4)), (2, .long z42), (6, .int (nI 10)), (0, .ref 183), (1, .ref to)]) d_Sc_save_41 (by decide) rfl rfl rfl ?_
  refine ST.lift (fun _ _ k => T_aload_n (v := .ref to) d_Sc_save_44 rfl (Or.inr ⟨_, rfl⟩) k) ?_
  refine ST.lift (fun _ _ k => T_iload d_Sc_save_45 rfl k) ?_
  refine ST.lift (fun _ _ k => T_lload_n d_Sc_save_47 rfl k) ?_
  refine ST.lift (fun _ _ k => T_l2i d_Sc_save_48 k) (S_anyi fun z43 => ?_)
  refine ST.lift (fun _ _ k => T_i2b d_Sc_save_49 k) (S_anyi fun z44 => ?_)
  refine S_bastore d_Sc_save_50 w_to a_to (vp_in_nI (by omega) (by omega)) ?_
  refine ST.lift (fun _ _ k => T_lload_n d_Sc_save_51 rfl k) ?_
  refine ST.lift (fun _ _ k => T_bipush (v := nI 8) d_Sc_save_52 (by decide) k) ?_
  refine ST.lift (fun _ _ k => T_lshr d_Sc_save_54 k) (S_anyl fun z45 => ?_)
  refine ST.lift (fun _ _ k => T_lstore_n (L' := [(2, .long z45), (4, .int (nI 32)), (5, .int (nI 4)), (6, .int (nI 10)), (0, .ref 183), (1, .ref to)]) d_Sc_save_55 (by decide) rfl k) ?_
  refine ST.lift (fun _ _ k => T_iinc (x := nI 32) (L' := [(4, .int (nI 24)), (2, .long z45), (5, .int (nI 4)), (6, .int (nI 10)), (0, .ref 183), (1, .ref to)]) d_Sc_save_56 (by decide) rfl (by rw [show nI 32 + Int32.ofInt (-8) = nI 24 by decide]; rfl) k) ?_
  refine S_iincN (a := 10) (b := 1) (L' := [(6, .int (nI 11)), (4, .int (nI 24)), (2, .long z45), (5, .int (nI 4)), (0, .ref 183), (1, .ref to)]) d_Sc_save_59 (by decide) rfl rfl rfl ?_
  refine ST.lift (fun _ _ k => T_goto (tgt := 11) d_Sc_save_62 rfl k) ?_
  refine ST.lift (fun _ _ k => T_iload d_Sc_save_11 rfl k) ?_
  refine ST.lift (fun _ _ k => T_bipush (v := nI 32) d_Sc_save_13 (by decide) k) ?_
  refine S_icmp_geN d_Sc_save_15 rfl (by omega) (by omega) (fun c => by first | exact absurd c (by omega) | exact c.elim | exact absurd c (by decide) | exact absurd (by assumption) c | exact absurd c (by assumption)) (fun _ => ?_)
  refine ST.lift (fun _ _ k => T_iload d_Sc_save_18 rfl k) ?_
  refine ST.lift (fun _ _ k => T_bipush (v := nI 8) d_Sc_save_20 (by decide) k) ?_
  refine S_icmp_geN d_Sc_save_22 rfl (by omega) (by omega) (fun _ => ?_) (fun c => by first | exact absurd c (by omega) | exact c.elim | exact absurd c (by decide) | exact absurd (by assumption) c | exact absurd c (by assumption))
  refine ST.lift (fun _ _ k => T_aload_n (v := .ref to) d_Sc_save_44 rfl (Or.inr ⟨_, rfl⟩) k) ?_
  refine ST.lift (fun _ _ k => T_iload d_Sc_save_45 rfl k) ?_
  refine ST.lift (fun _ _ k => T_lload_n d_Sc_save_47 rfl k) ?_
  refine ST.lift (fun _ _ k => T_l2i d_Sc_save_48 k) (S_anyi fun z46 => ?_)
  refine ST.lift (fun _ _ k => T_i2b d_Sc_save_49 k) (S_anyi fun z47 => ?_)
  refine S_bastore d_Sc_save_50 w_to a_to (vp_in_nI (by omega) (by omega)) ?_
  refine ST.lift (fun _ _ k => T_lload_n d_Sc_save_51 rfl k) ?_
  refine ST.lift (fun _ _ k => T_bipush (v := nI 8) d_Sc_save_52 (by decide) k) ?_
  refine ST.lift (fun _ _ k => T_lshr d_Sc_save_54 k) (S_anyl fun z48 => ?_)
  refine ST.lift (fun _ _ k => T_lstore_n (L' := [(2, .long z48), (6, .int (nI 11)), (4, .int (nI 24)), (5, .int (nI 4)), (0, .ref 183), (1, .ref to)]) d_Sc_save_55 (by decide) rfl k) ?_
  refine ST.lift (fun _ _ k => T_iinc (x := nI 24) (L' := [(4, .int (nI 16)), (2, .long z48), (6, .int (nI 11)), (5, .int (nI 4)), (0, .ref 183), (1, .ref to)]) d_Sc_save_56 (by decide) rfl (by rw [show nI 24 + Int32.ofInt (-8) = nI 16 by decide]; rfl) k) ?_
  refine S_iincN (a := 11) (b := 1) (L' := [(6, .int (nI 12)), (4, .int (nI 16)), (2, .long z48), (5, .int (nI 4)), (0, .ref 183), (1, .ref to)]) d_Sc_save_59 (by decide) rfl rfl rfl ?_
  refine ST.lift (fun _ _ k => T_goto (tgt := 11) d_Sc_save_62 rfl k) ?_
  refine ST.lift (fun _ _ k => T_iload d_Sc_save_11 rfl k) ?_
  refine ST.lift (fun _ _ k => T_bipush (v := nI 32) d_Sc_save_13 (by decide) k) ?_
  refine S_icmp_geN d_Sc_save_15 rfl (by omega) (by omega) (fun c => by first | exact absurd c (by omega) | exact c.elim | exact absurd c (by decide) | exact absurd (by assumption) c | exact absurd c (by assumption)) (fun _ => ?_)
  refine ST.lift (fun _ _ k => T_iload d_Sc_save_18 rfl k) ?_
  refine ST.lift (fun _ _ k => T_bipush (v := nI 8) d_Sc_save_20 (by decide) k) ?_
  refine S_icmp_geN d_Sc_save_22 rfl (by omega) (by omega) (fun _ => ?_) (fun c => by first | exact absurd c (by omega) | exact c.elim | exact absurd c (by decide) | exact absurd (by assumption) c | exact absurd c (by assumption))
  refine ST.lift (fun _ _ k => T_aload_n (v := .ref to) d_Sc_save_44 rfl (Or.inr ⟨_, rfl⟩) k) ?_
  refine ST.lift (fun _ _ k => T_iload d_Sc_save_45 rfl k) ?_
  refine ST.lift (fun _ _ k => T_lload_n d_Sc_save_47 rfl k) ?_
  refine ST.lift (fun _ _ k => T_l2i d_Sc_save_48 k) (S_anyi fun z49 => ?_)
  refine ST.lift (fun _ _ k => T_i2b d_Sc_save_49 k) (S_anyi fun z50 => ?_)
  refine S_bastore d_Sc_save_50 w_to a_to (vp_in_nI (by omega) (by omega)) ?_
  refine ST.lift (fun _ _ k => T_lload_n d_Sc_save_51 rfl k) ?_
  refine ST.lift (fun _ _ k => T_bipush (v := nI 8) d_Sc_save_52 (by decide) k) ?_
  refine ST.lift (fun _ _ k => T_lshr d_Sc_save_54 k) (S_anyl fun z51 => ?_)
  refine ST.lift (fun _ _ k => T_lstore_n (L' := [(2, .long z51), (6, .int (nI 12)), (4, .int (nI 16)), (5, .int (nI 4)), (0, .ref 183), (1, .ref to)]) d_Sc_save_55 (by decide) rfl k) ?_
  refine ST.lift (fun _ _ k => T_iinc (x := nI 16) (L' := [(4, .int (nI 8)), (2, .long z51), (6, .int (nI 12)), (5, .int (nI 4)), (0, .ref 183), (1, .ref to)]) d_Sc_save_56 (by decide) rfl (by rw [show nI 16 + Int32.ofInt (-8) = nI 8 by decide]; rfl) k) ?_
  refine S_iincN (a := 12) (b := 1) (L' := [(6, .int (nI 13)), (4, .int (nI 8)), (2, .long z51), (5, .int (nI 4)), (0, .ref 183), (1, .ref to)]) d_Sc_save_59 (by decide) rfl rfl rfl ?_
  refine ST.lift (fun _ _ k => T_goto (tgt := 11) d_Sc_save_62 rfl k) ?_
  refine ST.lift (fun _ _ k => T_iload d_Sc_save_11 rfl k) ?_
  refine ST.lift (fun _ _ k => T_bipush (v := nI 32) d_Sc_save_13 (by decide) k) ?_
  refine S_icmp_geN d_Sc_save_15 rfl (by omega) (by omega) (fun c => by first | exact absurd c (by omega) | exact c.elim | exact absurd c (by decide) | exact absurd (by assumption) c | exact absurd c (by assumption)) (fun _ => ?_)
  refine ST.lift (fun _ _ k => T_iload d_Sc_save_18 rfl k) ?_
  refine ST.lift (fun _ _ k => T_bipush (v := nI 8) d_Sc_save_20 (by decide) k) ?_
  refine S_icmp_geN d_Sc_save_22 rfl (by omega) (by omega) (fun _ => ?_) (fun c => by first | exact absurd c (by omega) | exact c.elim | exact absurd c (by decide) | exact absurd (by assumption) c | exact absurd c (by assumption))
  refine ST.lift (fun _ _ k => T_aload_n (v := .ref to) d_Sc_save_44 rfl (Or.inr ⟨_, rfl⟩) k) ?_
  refine ST.lift (fun _ _ k => T_iload d_Sc_save_45 rfl k) ?_
  refine ST.lift (fun _ _ k => T_lload_n d_Sc_save_47 rfl k) ?_
  refine ST.lift (fun _ _ k => T_l2i d_Sc_save_48 k) (S_anyi fun z52 => ?_)
  refine ST.lift (fun _ _ k => T_i2b d_Sc_save_49 k) (S_anyi fun z53 => ?_)
  refine S_bastore d_Sc_save_50 w_to a_to (vp_in_nI (by omega) (by omega)) ?_
  refine ST.lift (fun _ _ k => T_lload_n d_Sc_save_51 rfl k) ?_
  refine ST.lift (fun _ _ k => T_bipush (v := nI 8) d_Sc_save_52 (by decide) k) ?_
  refine ST.lift (fun _ _ k => T_lshr d_Sc_save_54 k) (S_anyl fun z54 => ?_)
  refine ST.lift (fun _ _ k => T_lstore_n (L' := [(2, .long z54), (6, .int (nI 13)), (4, .int (nI 8)), (5, .int (nI 4)), (0, .ref 183), (1, .ref to)]) d_Sc_save_55 (by decide) rfl k) ?_
  refine ST.lift (fun _ _ k => T_iinc (x := nI 8) (L' := [(4, .int (nI 0)), (2, .long z54), (6, .int (nI 13)), (5, .int (nI 4)), (0, .ref 183), (1, .ref to)]) d_Sc_save_56 (by decide) rfl (by rw [show nI 8 + Int32.ofInt (-8) = nI 0 by decide]; rfl) k) ?_
  refine S_iincN (a := 13) (b := 1) (L' := [(6, .int (nI 14)), (4, .int (nI 0)), (2, .long z54), (5, .int (nI 4)), (0, .ref 183), (1, .ref to)]) d_Sc_save_59 (by decide) rfl rfl rfl ?_
  refine ST.lift (fun _ _ k => T_goto (tgt := 11) d_Sc_save_62 rfl k) ?_
  refine ST.lift (fun _ _ k => T_iload d_Sc_save_11 rfl k) ?_
  refine ST.lift (fun _ _ k => T_bipush (v := nI 32) d_Sc_save_13 (by decide) k) ?_
  refine S_icmp_geN d_Sc_save_15 rfl (by omega) (by omega) (fun c => by first | exact absurd c (by omega) | exact c.elim | exact absurd c (by decide) | exact absurd (by assumption) c | exact absurd c (by assumption)) (fun _ => ?_)
  refine ST.lift (fun _ _ k => T_iload d_Sc_save_18 rfl k) ?_
  refine ST.lift (fun _ _ k => T_bipush (v := nI 8) d_Sc_save_20 (by decide) k) ?_
  refine S_icmp_geN d_Sc_save_22 rfl (by omega) (by omega) (fun c => by first | exact absurd c (by omega) | exact c.elim | exact absurd c (by decide) | exact absurd (by assumption) c | exact absurd c (by assumption)) (fun _ => ?_)
  refine ST.lift (fun _ _ k => T_lload_n d_Sc_save_25 rfl k) ?_
  refine ST.lift (fun _ _ k => T_aload_n (v := .ref 183) d_Sc_save_26 rfl (Or.inr ⟨_, rfl⟩) k) ?_
  refine S_getfield d_Sc_save_27 fg_Sc_9 (w183 _) rfl ?_
  refine ST.lift (fun _ _ k => T_iload d_Sc_save_30 rfl k) ?_
  refine S_laload d_Sc_save_32 a184 (vp_in_nI (by omega) (by omega)) (fun z55 => ?_)
  refine ST.lift (fun _ _ k => T_iload d_Sc_save_33 rfl k) ?_
  refine ST.lift (fun _ _ k => T_lshl d_Sc_save_35 k) (S_anyl fun z56 => ?_)
  refine ST.lift (fun _ _ k => T_lor d_Sc_save_36 k) (S_anyl fun z57 => ?_)
  refine ST.lift (fun _ _ k => T_lstore_n (L' := [(2, .long z57), (6, .int (nI 14)), (4, .int (nI 0)), (5, .int (nI 4)), (0, .ref 183), (1, .ref to)]) d_Sc_save_37 (by decide) rfl k) ?_
  refine S_iincN (a := 4) (b := 1) (L' := [(5, .int (nI 5)), (2, .long z57), (6, .int (nI 14)), (4, .int (nI 0)), (0, .ref 183), (1, .ref to)]) d_Sc_save_38 (by decide) rfl rfl rfl ?_
  refine S_iincN (a := 0) (b := 28) (L' := [(4, .int (nI 28)), (5, .int (nI 5)), (2, .long z57), (6, .int (nI 14)), (0, .ref 183), (1, .ref to)]) d_Sc_save_41 (by decide) rfl rfl rfl ?_
  refine ST.lift (fun _ _ k => T_aload_n (v := .ref to) d_Sc_save_44 rfl (Or.inr ⟨_, rfl⟩) k) ?_
  refine ST.lift (fun _ _ k => T_iload d_Sc_save_45 rfl k) ?_
  refine ST.lift (fun _ _ k => T_lload_n d_Sc_save_47 rfl k) ?_
  refine ST.lift (fun _ _ k => T_l2i d_Sc_save_48 k) (S_anyi fun z58 => ?_)
  refine ST.lift (fun _ _ k => T_i2b d_Sc_save_49 k) (S_anyi fun z59 => ?_)
  refine S_bastore d_Sc_save_50 w_to a_to (vp_in_nI (by omega) (by omega)) ?_
  refine ST.lift (fun _ _ k => T_lload_n d_Sc_save_51 rfl k) ?_
  refine ST.lift (fun _ _ k => T_bipush (v := nI 8) d_Sc_save_52 (by decide) k) ?_
  refine ST.lift (fun _ _ k => T_lshr d_Sc_save_54 k) (S_anyl fun z60 => ?_)
  refine ST.lift (fun _ _ k => T_lstore_n (L' := [(2, .long z60), (4, .int (nI 28)), (5, .int (nI 5)), (6, .int (nI 14)), (0, .ref 183), (1, .ref to)]) d_Sc_save_55 (by decide) rfl k) ?_
  refine ST.lift (fun _ _ k => T_iinc (x := nI 28) (L' := [(4, .int (nI 20)), (2, .long z60), (5, .int (nI 5)), (6, .int (nI 14)), (0, .ref 183), (1, .ref to)]) d_Sc_save_56 (by decide) rfl (by rw [show nI 28 + Int32.ofInt (-8) = nI 20 by decide]; rfl) k) ?_
  refine S_iincN (a := 14) (b := 1) (L' := [(6, .int (nI 15)), (4, .int (nI 20)), (2, .long z60), (5, .int (nI 5)), (0, .ref 183), (1, .ref to)]) d_Sc_save_59 (by decide) rfl rfl rfl ?_
  refine ST.lift (fun _ _ k => T_goto (tgt := 11) d_Sc_save_62 rfl k) ?_
  refine ST.lift (fun _ _ k => T_iload d_Sc_save_11 rfl k) ?_
  refine ST.lift (fun _ _ k => T_bipush (v := nI 32) d_Sc_save_13 (by decide) k) ?_
  refine S_icmp_geN d_Sc_save_15 rfl (by omega) (by omega) (fun c => by first | exact absurd c (by omega) | exact c.elim | exact absurd c (by decide) | exact absurd (by assumption) c | exact absurd c (by assumption)) (fun _ => ?_)
  refine ST.lift (fun _ _ k => T_iload d_Sc_save_18 rfl k) ?_
  refine ST.lift (fun _ _ k => T_bipush (v := nI 8) d_Sc_save_20 (by decide) k) ?_
  refine S_icmp_geN d_Sc_save_22 rfl (by omega) (by omega) (fun _ => ?_) (fun c => by first | exact absurd c (by omega) | exact c.elim | exact absurd c (by decide) | exact absurd (by assumption) c | exact absurd c (by assumption))
  refine ST.lift (fun _ _ k => T_aload_n (v := .ref to) d_Sc_save_44 rfl (Or.inr ⟨_, rfl⟩) k) ?_
  refine ST.lift (fun _ _ k => T_iload d_Sc_save_45 rfl k) ?_
  refine ST.lift (fun _ _ k => T_lload_n d_Sc_save_47 rfl k) ?_
  refine ST.lift (fun _ _ k => T_l2i d_Sc_save_48 k) (S_anyi fun z61 => ?_)
  refine ST.lift (fun _ _ k => T_i2b d_Sc_save_49 k) (S_anyi fun z62 => ?_)
  refine S_bastore d_Sc_save_50 w_to a_to (vp_in_nI (by omega) (by omega)) ?_
  refine ST.lift (fun _ _ k => T_lload_n d_Sc_save_51 rfl k) ?_
  refine ST.lift (fun _ _ k => T_bipush (v := nI 8) d_Sc_save_52 (by decide) k) ?_
  refine ST.lift (fun _ _ k => T_lshr d_Sc_save_54 k) (S_anyl fun z63 => ?_)
  refine ST.lift (fun _ _ k => T_lstore_n (L' := [(2, .long z63), (6, .int (nI 15)), (4, .int (nI 20)), (5, .int (nI 5)), (0, .ref 183), (1, .ref to)]) d_Sc_save_55 (by decide) rfl k) ?_
  refine ST.lift (fun _ _ k => T_iinc (x := nI 20) (L' := [(4, .int (nI 12)), (2, .long z63), (6, .int (nI 15)), (5, .int (nI 5)), (0, .ref 183), (1, .ref to)]) d_Sc_save_56 (by decide) rfl (by rw [show nI 20 + Int32.ofInt (-8) = nI 12 by decide]; rfl) k) ?_
  refine S_iincN (a := 15) (b := 1) (L' := [(6, .int (nI 16)), (4, .int (nI 12)), (2, .long z63), (5, .int (nI 5)), (0, .ref 183), (1, .ref to)]) d_Sc_save_59 (by decide) rfl rfl rfl ?_
  refine ST.lift (fun _ _ k => T_goto (tgt := 11) d_Sc_save_62 rfl k) ?_
  refine ST.lift (fun _ _ k => T_iload d_Sc_save_11 rfl k) ?_
  refine ST.lift (fun _ _ k => T_bipush (v := nI 32) d_Sc_save_13 (by decide) k) ?_
  refine S_icmp_geN d_Sc_save_15 rfl (by omega) (by omega) (fun c => by first | exact absurd c (by omega) | exact c.elim | exact absurd c (by decide) | exact absurd (by assumption) c | exact absurd c (by assumption)) (fun _ => ?_)
  refine ST.lift (fun _ _ k => T_iload d_Sc_save_18 rfl k) ?_
  refine ST.lift (fun _ _ k => T_bipush (v := nI 8) d_Sc_save_20 (by decide) k) ?_
  refine S_icmp_geN d_Sc_save_22 rfl (by omega) (by omega) (fun _ => ?_) (fun c => by first | exact absurd c (by omega) | exact c.elim | exact absurd c (by decide) | exact absurd (by assumption) c | exact absurd c (by assumption))
  refine ST.lift (fun _ _ k => T_aload_n (v := .ref to) d_Sc_save_44 rfl (Or.inr ⟨_, rfl⟩) k) ?_
  refine ST.lift (fun _ _ k => T_iload d_Sc_save_45 rfl k) ?_
  refine ST.lift (fun _ _ k => T_lload_n d_Sc_save_47 rfl k) ?_
  refine ST.lift (fun _ _ k => T_l2i d_Sc_save_48 k) (S_anyi fun z64 => ?_)
  refine ST.lift (fun _ _ k => T_i2b d_Sc_save_49 k) (S_anyi fun z65 => ?_)
  refine S_bastore d_Sc_save_50 w_to a_to (vp_in_nI (by omega) (by omega)) ?_
  refine ST.lift (fun _ _ k => T_lload_n d_Sc_save_51 rfl k) ?_
  refine ST.lift (fun _ _ k => T_bipush (v := nI 8) d_Sc_save_52 (by decide) k) ?_
  refine ST.lift (fun _ _ k => T_lshr d_Sc_save_54 k) (S_anyl fun z66 => ?_)
  refine ST.lift (fun _ _ k => T_lstore_n (L' := [(2, .long z66), (6, .int (nI 16)), (4, .int (nI 12)), (5, .int (nI 5)), (0, .ref 183), (1, .ref to)]) d_Sc_save_55 (by decide) rfl k) ?_
  refine ST.lift (fun _ _ k => T_iinc (x := nI 12) (L' := [(4, .int (nI 4)), (2, .long z66), (6, .int (nI 16)), (5, .int (nI 5)), (0, .ref 183), (1, .ref to)]) d_Sc_save_56 (by decide) rfl (by rw [show nI 12 + Int32.ofInt (-8) = nI 4 by decide]; rfl) k) ?_
  refine S_iincN (a := 16) (b := 1) (L' := [(6, .int (nI 17)), (4, .int (nI 4)), (2, .long z66), (5, .int (nI 5)), (0, .ref 183), (1, .ref to)]) d_Sc_save_59 (by decide) rfl rfl rfl ?_
  refine ST.lift (fun _ _ k => T_goto (tgt := 11) d_Sc_save_62 rfl k) ?_
  refine ST.lift (fun _ _ k => T_iload d_Sc_save_11 rfl k) ?_
  refine ST.lift (fun _ _ k => T_bipush (v := nI 32) d_Sc_save_13 (by decide) k) ?_
  refine S_icmp_geN d_Sc_save_15 rfl (by omega) (by omega) (fun c => by first | exact absurd c (by omega) | exact c.elim | exact absurd c (by decide) | exact absurd (by assumption) c | exact absurd c (by assumption)) (fun _ => ?_)
  refine ST.lift (fun _ _ k => T_iload d_Sc_save_18 rfl k) ?_
  refine ST.lift (fun _ _ k => T_bipush (v := nI 8) d_Sc_save_20 (by decide) k) ?_
  refine S_icmp_geN d_Sc_save_22 rfl (by omega) (by omega) (fun c => by first | exact absurd c (by omega) | exact c.elim | exact absurd c (by decide) | exact absurd (by assumption) c | exact absurd c (by assumption)) (fun _ => ?_)
  refine ST.lift (fun _ _ k => T_lload_n d_Sc_save_25 rfl k) ?_
  refine ST.lift (fun _ _ k => T_aload_n (v := .ref 183) d_Sc_save_26 rfl (Or.inr ⟨_, rfl⟩) k) ?_
  refine S_getfield d_Sc_save_27 fg_Sc_9 (w183 _) rfl ?_
  refine ST.lift (fun _ _ k => T_iload d_Sc_save_30 rfl k) ?_
  refine S_laload d_Sc_save_32 a184 (vp_in_nI (by omega) (by omega)) (fun z67 => ?_)
  refine ST.lift (fun _ _ k => T_iload d_Sc_save_33 rfl k) ?_
  refine ST.lift (fun _ _ k => T_lshl d_Sc_save_35 k) (S_anyl fun z68 => ?_)
  refine ST.lift (fun _ _ k => T_lor d_Sc_save_36 k) (S_anyl fun z69 => ?_)
  refine ST.lift (fun _ _ k => T_lstore_n (L' := [(2, .long z69), (6, .int (nI 17)), (4, .int (nI 4)), (5, .int (nI 5)), (0, .ref 183), (1, .ref to)]) d_Sc_save_37 (by decide) rfl k) ?_
  refine S_iincN (a := 5) (b := 1) (L' := [(5, .int (nI 6)), (2, .long z69), (6, .int (nI 17)), (4, .int (nI 4)), (0, .ref 183), (1, .ref to)]) d_Sc_save_38 (by decide) rfl rfl rfl ?_
  refine S_iincN (a := 4) (b := 28) (L' := [(4, .int (nI 32)), (5, .int (nI 6)), (2, .long z69), (6, .int (nI 17)), (0, .ref 183), (1, .ref to)]) d_Sc_save_41 (by decide) rfl rfl rfl ?_
  refine ST.lift (fun _ _ k => T_aload_n (v := .ref to) d_Sc_save_44 rfl (Or.inr ⟨_, rfl⟩) k) ?_
  refine ST.lift (fun _ _ k => T_iload d_Sc_save_45 rfl k) ?_
  refine ST.lift (fun _ _ k => T_lload_n d_Sc_save_47 rfl k) ?_
  refine ST.lift (fun _ _ k => T_l2i d_Sc_save_48 k) (S_anyi fun z70 => ?_)
  refine ST.lift (fun _ _ k => T_i2b d_Sc_save_49 k) (S_anyi fun z71 => ?_)
  refine S_bastore d_Sc_save_50 w_to a_to (vp_in_nI (by omega) (by omega)) ?_
  refine ST.lift (fun _ _ k => T_lload_n d_Sc_save_51 rfl k) ?_
  refine ST.lift (fun _ _ k => T_bipush (v := nI 8) d_Sc_save_52 (by decide) k) ?_
  refine ST.lift (fun _ _ k => T_lshr d_Sc_save_54 k) (S_anyl fun z72 => ?_)
  refine ST.lift (fun _ _ k => T_lstore_n (L' := [(2, .long z72), (4, .int (nI 32)), (5, .int (nI 6)), (6, .int (nI 17)), (0, .ref 183), (1, .ref to)]) d_Sc_save_55 (by decide) rfl k) ?_
  refine ST.lift (fun _ _ k => T_iinc (x := nI 32) (L' := [(4, .int (nI 24)), (2, .long z72), (5, .int (nI 6)), (6, .int (nI 17)), (0, .ref 183), (1, .ref to)]) d_Sc_save_56 (by decide) rfl (by rw [show nI 32 + Int32.ofInt (-8) = nI 24 by decide]; rfl) k) ?_
  refine S_iincN (a := 17) (b := 1) (L' := [(6, .int (nI 18)), (4, .int (nI 24)), (2, .long z72), (5, .int (nI 6)), (0, .ref 183), (1, .ref to)]) d_Sc_save_59 (by decide) rfl rfl rfl ?_
  refine ST.lift (fun _ _ k => T_goto (tgt := 11) d_Sc_save_62 rfl k) ?_
  refine ST.lift (fun _ _ k => T_iload d_Sc_save_11 rfl k) ?_
  refine ST.lift (fun _ _ k => T_bipush (v := nI 32) d_Sc_save_13 (by decide) k) ?_
  refine S_icmp_geN d_Sc_save_15 rfl (by omega) (by omega) (fun c => by first | exact absurd c (by omega) | exact c.elim | exact absurd c (by decide) | exact absurd (by assumption) c | exact absurd c (by assumption)) (fun _ => ?_)
  refine ST.lift (fun _ _ k => T_iload d_Sc_save_18 rfl k) ?_
  refine ST.lift (fun _ _ k => T_bipush (v := nI 8) d_Sc_save_20 (by decide) k) ?_
  refine S_icmp_geN d_Sc_save_22 rfl (by omega) (by omega) (fun _ => ?_) (fun c => by first | exact absurd c (by omega) | exact c.elim | exact absurd c (by decide) | exact absurd (by assumption) c | exact absurd c (by assumption))
  refine ST.lift (fun _ _ k => T_aload_n (v := .ref to) d_Sc_save_44 rfl (Or.inr ⟨_, rfl⟩) k) ?_
  refine ST.lift (fun _ _ k => T_iload d_Sc_save_45 rfl k) ?_
  refine ST.lift (fun _ _ k => T_lload_n d_Sc_save_47 rfl k) ?_
  refine ST.lift (fun _ _ k => T_l2i d_Sc_save_48 k) (S_anyi fun z73 => ?_)
  refine ST.lift (fun _ _ k => T_i2b d_Sc_save_49 k) (S_anyi fun z74 => ?_)
  refine S_bastore d_Sc_save_50 w_to a_to (vp_in_nI (by omega) (by omega)) ?_
  refine ST.lift (fun _ _ k => T_lload_n d_Sc_save_51 rfl k) ?_
  refine ST.lift (fun _ _ k => T_bipush (v := nI 8) d_Sc_save_52 (by decide) k) ?_
  refine ST.lift (fun _ _ k => T_lshr d_Sc_save_54 k) (S_anyl fun z75 => ?_)
  refine ST.lift (fun _ _ k => T_lstore_n (L' := [(2, .long z75), (6, .int (nI 18)), (4, .int (nI 24)), (5, .int (nI 6)), (0, .ref 183), (1, .ref to)]) d_Sc_save_55 (by decide) rfl k) ?_
  refine ST.lift (fun _ _ k => T_iinc (x := nI 24) (L' := [(4, .int (nI 16)), (2, .long z75), (6, .int (nI 18)), (5, .int (nI 6)), (0, .ref 183), (1, .ref to)]) d_Sc_save_56 (by decide) rfl (by rw [show nI 24 + Int32.ofInt (-8) = nI 16 by decide]; rfl) k) ?_
  refine S_iincN (a := 18) (b := 1) (L' := [(6, .int (nI 19)), (4, .int (nI 16)), (2, .long z75), (5, .int (nI 6)), (0, .ref 183), (1, .ref to)]) d_Sc_save_59 (by decide) rfl rfl rfl ?_
  refine ST.lift (fun _ _ k => T_goto (tgt := 11) d_Sc_save_62 rfl k) ?_
  refine ST.lift (fun _ _ k => T_iload d_Sc_save_11 rfl k) ?_
  refine ST.lift (fun _ _ k => T_bipush (v := nI 32) d_Sc_save_13 (by decide) k) ?_
  refine S_icmp_geN d_Sc_save_15 rfl (by omega) (by omega) (fun c => by first | exact absurd c (by omega) | exact c.elim | exact absurd c (by decide) | exact absurd (by assumption) c | exact absurd c (by assumption)) (fun _ => ?_)
  refine ST.lift (fun _ _ k => T_iload d_Sc_save_18 rfl k) ?_
  refine ST.lift (fun _ _ k => T_bipush (v := nI 8) d_Sc_save_20 (by decide) k) ?_
  refine S_icmp_geN d_Sc_save_22 rfl (by omega) (by omega) (fun _ => ?_) (fun c => by first | exact absurd c (by omega) | exact c.elim | exact absurd c (by decide) | exact absurd (by assumption) c | exact absurd c (by assumption))
  refine ST.lift (fun _ _ k => T_aload_n (v := .ref to) d_Sc_save_44 rfl (Or.inr ⟨_, rfl⟩) k) ?_
  refine ST.lift (fun _ _ k => T_iload d_Sc_save_45 rfl k) ?_
  refine ST.lift (fun _ _ k => T_lload_n d_Sc_save_47 rfl k) ?_
  refine ST.lift (fun _ _ k => T_l2i d_Sc_save_48 k) (S_anyi fun z76 => ?_)
  refine ST.lift (fun _ _ k => T_i2b d_Sc_save_49 k) (S_anyi fun z77 => ?_)
  refine S_bastore d_Sc_save_50 w_to a_to (vp_in_nI (by omega) (by omega)) ?_
  refine ST.lift (fun _ _ k => T_lload_n d_Sc_save_51 rfl k) ?_
  refine ST.lift (fun _ _ k => T_bipush (v := nI 8) d_Sc_save_52 (by decide) k) ?_
  refine ST.lift (fun _ _ k => T_lshr d_Sc_save_54 k) (S_anyl fun z78 => ?_)
  refine ST.lift (fun _ _ k => T_lstore_n (L' := [(2, .long z78), (6, .int (nI 19)), (4, .int (nI 16)), (5, .int (nI 6)), (0, .ref 183), (1, .ref to)]) d_Sc_save_55 (by decide) rfl k) ?_
  refine ST.lift (fun _ _ k => T_iinc (x := nI 16) (L' := [(4, .int (nI 8)), (2, .long z78), (6, .int (nI 19)), (5, .int (nI 6)), (0, .ref 183), (1, .ref to)]) d_Sc_save_56 (by decide) rfl (by rw [show nI 16 + Int32.ofInt (-8) = nI 8 by decide]; rfl) k) ?_
  refine S_iincN (a := 19) (b := 1) (L' := [(6, .int (nI 20)), (4, .int (nI 8)), (2, .long z78), (5, .int (nI 6)), (0, .ref 183), (1, .ref to)]) d_Sc_save_59 (by decide) rfl rfl rfl ?_
  refine ST.lift (fun _ _ k => T_goto (tgt := 11) d_Sc_save_62 rfl k) ?_
  refine ST.lift (fun _ _ k => T_iload d_Sc_save_11 rfl k) ?_
  refine ST.lift (fun _ _ k => T_bipush (v := nI 32) d_Sc_save_13 (by decide) k) ?_
  refine S_icmp_geN d_Sc_save_15 rfl (by omega) (by omega) (fun c => by first | exact absurd c (by omega) | exact c.elim | exact absurd c (by decide) | exact absurd (by assumption) c | exact absurd c (by assumption)) (fun _ => ?_)
  refine ST.lift (fun _ _ k => T_iload d_Sc_save_18 rfl k) ?_
  refine ST.lift (fun _ _ k => T_bipush (v := nI 8) d_Sc_save_20 (by decide) k) ?_
  refine S_icmp_geN d_Sc_save_22 rfl (by omega) (by omega) (fun _ => ?_) (fun c => by first | exact absurd c (by omega) | exact c.elim | exact absurd c (by decide) | exact absurd (by assumption) c | exact absurd c (by assumption))
  refine ST.lift (fun _ _ k => T_aload_n (v := .ref to) d_Sc_save_44 rfl (Or.inr ⟨_, rfl⟩) k) ?_
  refine ST.lift (fun _ _ k => T_iload d_Sc_save_45 rfl k) ?_
  refine ST.lift (fun _ _ k => T_lload_n d_Sc_save_47 rfl k) ?_
  refine ST.lift (fun _ _ k => T_l2i d_Sc_save_48 k) (S_anyi fun z79 => ?_)
  refine ST.lift (fun _ _ k => T_i2b d_Sc_save_49 k) (S_anyi fun z80 => ?_)
  refine S_bastore d_Sc_save_50 w_to a_to (vp_in_nI (by omega) (by omega)) ?_
  refine ST.lift (fun _ _ k => T_lload_n d_Sc_save_51 rfl k) ?_
  refine ST.lift (fun _ _ k => T_bipush (v := nI 8) d_Sc_save_52 (by decide) k) ?_
  refine ST.lift (fun _ _ k => T_lshr d_Sc_save_54 k) (S_anyl fun z81 => ?_)
  refine ST.lift (fun _ _ k => T_lstore_n (L' := [(2, .long z81), (6, .int (nI 20)), (4, .int (nI 8)), (5, .int (nI 6)), (0, .ref 183), (1, .ref to)]) d_Sc_save_55 (by decide) rfl k) ?_
  refine ST.lift (fun _ _ k => T_iinc (x := nI 8) (L' := [(4, .int (nI 0)), (2, .long z81), (6, .int (nI 20)), (5, .int (nI 6)), (0, .ref 183), (1, .ref to)]) d_Sc_save_56 (by decide) rfl (by rw [show nI 8 + Int32.ofInt (-8) = nI 0 by decide]; rfl) k) ?_
  refine S_iincN (a := 20) (b := 1) (L' := [(6, .int (nI 21)), (4, .int (nI 0)), (2, .long z81), (5, .int (nI 6)), (0, .ref 183), (1, .ref to)]) d_Sc_save_59 (by decide) rfl rfl rfl ?_
  refine ST.lift (fun _ _ k => T_goto (tgt := 11) d_Sc_save_62 rfl k) ?_
  refine ST.lift (fun _ _ k => T_iload d_Sc_save_11 rfl k) ?_
  refine ST.lift (fun _ _ k => T_bipush (v := nI 32) d_Sc_save_13 (by decide) k) ?_
  refine S_icmp_geN d_Sc_save_15 rfl (by omega) (by omega) (fun c => by first | exact absurd c (by omega) | exact c.elim | exact absurd c (by decide) | exact absurd (by assumption) c | exact absurd c (by assumption)) (fun _ => ?_)
  refine ST.lift (fun _ _ k => T_iload d_Sc_save_18 rfl k) ?_
  refine ST.lift (fun _ _ k => T_bipush (v := nI 8) d_Sc_save_20 (by decide) k) ?_
  refine S_icmp_geN d_Sc_save_22 rfl (by omega) (by omega) (fun c => by first | exact absurd c (by omega) | exact c.elim | exact absurd c (by decide) | exact absurd (by assumption) c | exact absurd c (by assumption)) (fun _ => ?_)
  refine ST.lift (fun _ _ k => T_lload_n d_Sc_save_25 rfl k) ?_
  refine ST.lift (fun _ _ k => T_aload_n (v := .ref 183) d_Sc_save_26 rfl (Or.inr ⟨_, rfl⟩) k) ?_
  refine S_getfield d_Sc_save_27 fg_Sc_9 (w183 _) rfl ?_
  refine ST.lift (fun _ _ k => T_iload d_Sc_save_30 rfl k) ?_
  refine S_laload d_Sc_save_32 a184 (vp_in_nI (by omega) (by omega)) (fun z82 => ?_)
  refine ST.lift (fun _ _ k => T_iload d_Sc_save_33 rfl k) ?_
  refine ST.lift (fun _ _ k => T_lshl d_Sc_save_35 k) (S_anyl fun z83 => ?_)
  refine ST.lift (fun _ _ k => T_lor d_Sc_save_36 k) (S_anyl fun z84 => ?_)
  refine ST.lift (fun _ _ k => T_lstore_n (L' := [(2, .long z84), (6, .int (nI 21)), (4, .int (nI 0)), (5, .int (nI 6)), (0, .ref 183), (1, .ref to)]) d_Sc_save_37 (by decide) rfl k) ?_
  refine S_iincN (a := 6) (b := 1) (L' := [(5, .int (nI 7)), (2, .long z84), (6, .int (nI 21)), (4, .int (nI 0)), (0, .ref 183), (1, .ref to)]) d_Sc_save_38 (by decide) rfl rfl rfl ?_
  refine S_iincN (a := 0) (b := 28) (L' := [(4, .int (nI 28)), (5, .int (nI 7)), (2, .long z84), (6, .int (nI 21)), (0, .ref 183), (1, .ref to)]) d_Sc_save_41 (by decide) rfl rfl rfl ?_
  refine ST.lift (fun _ _ k => T_aload_n (v := .ref to) d_Sc_save_44 rfl (Or.inr ⟨_, rfl⟩) k) ?_
  refine ST.lift (fun _ _ k => T_iload d_Sc_save_45 rfl k) ?_
  refine ST.lift (fun _ _ k => T_lload_n d_Sc_save_47 rfl k) ?_
  refine ST.lift (fun _ _ k => T_l2i d_Sc_save_48 k) (S_anyi fun z85 => ?_)
  refine ST.lift (fun _ _ k => T_i2b d_Sc_save_49 k) (S_anyi fun z86 => ?_)
  refine S_bastore d_Sc_save_50 w_to a_to (vp_in_nI (by omega) (by omega)) ?_
  refine ST.lift (fun _ _ k => T_lload_n d_Sc_save_51 rfl k) ?_
  refine ST.lift (fun _ _ k => T_bipush (v := nI 8) d_Sc_save_52 (by decide) k) ?_
  refine ST.lift (fun _ _ k => T_lshr d_Sc_save_54 k) (S_anyl fun z87 => ?_)
  refine ST.lift (fun _ _ k => T_lstore_n (L' := [(2, .long z87), (4, .int (nI 28)), (5, .int (nI 7)), (6, .int (nI 21)), (0, .ref 183), (1, .ref to)]) d_Sc_save_55 (by decide) rfl k) ?_
  refine ST.lift (fun _ _ k => T_iinc (x := nI 28) (L' := [(4, .int (nI 20)), (2, .long z87), (5, .int (nI 7)), (6, .int (nI 21)), (0, .ref 183), (1, .ref to)]) d_Sc_save_56 (by decide) rfl (by rw [show nI 28 + Int32.ofInt (-8) = nI 20 by decide]; rfl) k) ?_
  refine S_iincN (a := 21) (b := 1) (L' := [(6, .int (nI 22)), (4, .int (nI 20)), (2, .long z87), (5, .int (nI 7)), (0, .ref 183), (1, .ref to)]) d_Sc_save_59 (by decide) rfl rfl rfl ?_
  refine ST.lift (fun _ _ k => T_goto (tgt := 11) d_Sc_save_62 rfl k) ?_
  refine ST.lift (fun _ _ k => T_iload d_Sc_save_11 rfl k) ?_
  refine ST.lift (fun _ _ k => T_bipush (v := nI 32) d_Sc_save_13 (by decide) k) ?_
  refine S_icmp_geN d_Sc_save_15 rfl (by omega) (by omega) (fun c => by first | exact absurd c (by omega) | exact c.elim | exact absurd c (by decide) | exact absurd (by assumption) c | exact absurd c (by assumption)) (fun _ => ?_)
  refine ST.lift (fun _ _ k => T_iload d_Sc_save_18 rfl k) ?_
  refine ST.lift (fun _ _ k => T_bipush (v := nI 8) d_Sc_save_20 (by decide) k) ?_
  refine S_icmp_geN d_Sc_save_22 rfl (by omega) (by omega) (fun _ => ?_) (fun c => by first | exact absurd c (by omega) | exact c.elim | exact absurd c (by decide) | exact absurd (by assumption) c | exact absurd c (by assumption))
  refine ST.lift (fun _ _ k => T_aload_n (v := .ref to) d_Sc_save_44 rfl (Or.inr ⟨_, rfl⟩) k) ?_
  refine ST.lift (fun _ _ k => T_iload d_Sc_save_45 rfl k) ?_
  refine ST.lift (fun _ _ k => T_lload_n d_Sc_save_47 rfl k) ?_
  refine ST.lift (fun _ _ k => T_l2i d_Sc_save_48 k) (S_anyi fun z88 => ?_)
  refine ST.lift (fun _ _ k => T_i2b d_Sc_save_49 k) (S_anyi fun z89 => ?_)
  refine S_bastore d_Sc_save_50 w_to a_to (vp_in_nI (by omega) (by omega)) ?_
  refine ST.lift (fun _ _ k => T_lload_n d_Sc_save_51 rfl k) ?_
  refine ST.lift (fun _ _ k => T_bipush (v := nI 8) d_Sc_save_52 (by decide) k) ?_
  refine ST.lift (fun _ _ k => T_lshr d_Sc_save_54 k) (S_anyl fun z90 => ?_)
  refine ST.lift (fun _ _ k => T_lstore_n (L' := [(2, .long z90), (6, .int (nI 22)), (4, .int (nI 20)), (5, .int (nI 7)), (0, .ref 183), (1, .ref to)]) d_Sc_save_55 (by decide) rfl k) ?_
  refine ST.lift (fun _ _ k => T_iinc (x := nI 20) (L' := [(4, .int (nI 12)), (2, .long z90), (6, .int (nI 22)), (5, .int (nI 7)), (0, .ref 183), (1, .ref to)]) d_Sc_save_56 (by decide) rfl (by rw [show nI 20 + Int32.ofInt (-8) = nI 12 by decide]; rfl) k) ?_
  refine S_iincN (a := 22) (b := 1) (L' := [(6, .int (nI 23)), (4, .int (nI 12)), (2, .long z90), (5, .int (nI 7)), (0, .ref 183), (1, .ref to)]) d_Sc_save_59 (by decide) rfl rfl rfl ?_
  refine ST.lift (fun _ _ k => T_goto (tgt := 11) d_Sc_save_62 rfl k) ?_
  refine ST.lift (fun _ _ k => T_iload d_Sc_save_11 rfl k) ?_
  refine ST.lift (fun _ _ k => T_bipush (v := nI 32) d_Sc_save_13 (by decide) k) ?_
  refine S_icmp_geN d_Sc_save_15 rfl (by omega) (by omega) (fun c => by first | exact absurd c (by omega) | exact c.elim | exact absurd c (by decide) | exact absurd (by assumption) c | exact absurd c (by assumption)) (fun _ => ?_)
  refine ST.lift (fun _ _ k => T_iload d_Sc_save_18 rfl k) ?_
  refine ST.lift (fun _ _ k => T_bipush (v := nI 8) d_Sc_save_20 (by decide) k) ?_
  refine S_icmp_geN d_Sc_save_22 rfl (by omega) (by omega) (fun _ => ?_) (fun c => by first | exact absurd c (by omega) | exact c.elim | exact absurd c (by decide) | exact absurd (by assumption) c | exact absurd c (by assumption))
  refine ST.lift (fun _ _ k => T_aload_n (v := .ref to) d_Sc_save_44 rfl (Or.inr ⟨_, rfl⟩) k) ?_
  refine ST.lift (fun _ _ k => T_iload d_Sc_save_45 rfl k) ?_
  refine ST.lift (fun _ _ k => T_lload_n d_Sc_save_47 rfl k) ?_
  refine ST.lift (fun _ _ k => T_l2i d_Sc_save_48 k) (S_anyi fun z91 => ?_)
  refine ST.lift (fun _ _ k => T_i2b d_Sc_save_49 k) (S_anyi fun z92 => ?_)
  refine S_bastore d_Sc_save_50 w_to a_to (vp_in_nI (by omega) (by omega)) ?_
  refine ST.lift (fun _ _ k => T_lload_n d_Sc_save_51 rfl k) ?_
  refine ST.lift (fun _ _ k => T_bipush (v := nI 8) d_Sc_save_52 (by decide) k) ?_
  refine ST.lift (fun _ _ k => T_lshr d_Sc_save_54 k) (S_anyl fun z93 => ?_)
  refine ST.lift (fun _ _ k => T_lstore_n (L' := [(2, .long z93), (6, .int (nI 23)), (4, .int (nI 12)), (5, .int (nI 7)), (0, .ref 183), (1, .ref to)]) d_Sc_save_55 (by decide) rfl k) ?_
  refine ST.lift (fun _ _ k => T_iinc (x := nI 12) (L' := [(4, .int (nI 4)), (2, .long z93), (6, .int (nI 23)), (5, .int (nI 7)), (0, .ref 183), (1, .ref to)]) d_Sc_save_56 (by decide) rfl (by rw [show nI 12 + Int32.ofInt (-8) = nI 4 by decide]; rfl) k) ?_
  refine S_iincN (a := 23) (b := 1) (L' := [(6, .int (nI 24)), (4, .int (nI 4)), (2, .long z93), (5, .int (nI 7)), (0, .ref 183), (1, .ref to)]) d_Sc_save_59 (by decide) rfl rfl rfl ?_
  refine ST.lift (fun _ _ k => T_goto (tgt := 11) d_Sc_save_62 rfl k) ?_
  refine ST.lift (fun _ _ k => T_iload d_Sc_save_11 rfl k) ?_
  refine ST.lift (fun _ _ k => T_bipush (v := nI 32) d_Sc_save_13 (by decide) k) ?_
  refine S_icmp_geN d_Sc_save_15 rfl (by omega) (by omega) (fun c => by first | exact absurd c (by omega) | exact c.elim | exact absurd c (by decide) | exact absurd (by assumption) c | exact absurd c (by assumption)) (fun _ => ?_)
  refine ST.lift (fun _ _ k => T_iload d_Sc_save_18 rfl k) ?_
  refine ST.lift (fun _ _ k => T_bipush (v := nI 8) d_Sc_save_20 (by decide) k) ?_
  refine S_icmp_geN d_Sc_save_22 rfl (by omega) (by omega) (fun c => by first | exact absurd c (by omega) | exact c.elim | exact absurd c (by decide) | exact absurd (by assumption) c | exact absurd c (by assumption)) (fun _ => ?_)
  refine ST.lift (fun _ _ k => T_lload_n d_Sc_save_25 rfl k) ?_
  refine ST.lift (fun _ _ k => T_aload_n (v := .ref 183) d_Sc_save_26 rfl (Or.inr ⟨_, rfl⟩) k) ?_
  refine S_getfield d_Sc_save_27 fg_Sc_9 (w183 _) rfl ?_
  refine ST.lift (fun _ _ k => T_iload d_Sc_save_30 rfl k) ?_
  refine S_laload d_Sc_save_32 a184 (vp_in_nI (by omega) (by omega)) (fun z94 => ?_)
  refine ST.lift (fun _ _ k => T_iload d_Sc_save_33 rfl k) ?_
  refine ST.lift (fun _ _ k => T_lshl d_Sc_save_35 k) (S_anyl fun z95 => ?_)
  refine ST.lift (fun _ _ k => T_lor d_Sc_save_36 k) (S_anyl fun z96 => ?_)
  refine ST.lift (fun _ _ k => T_lstore_n (L' := [(2, .long z96), (6, .int (nI 24)), (4, .int (nI 4)), (5, .int (nI 7)), (0, .ref 183), (1, .ref to)]) d_Sc_save_37 (by decide) rfl k) ?_
  refine S_iincN (a := 7) (b := 1) (L' := [(5, .int (nI 8)), (2, .long z96), (6, .int (nI 24)), (4, .int (nI 4)), (0, .ref 183), (1, .ref to)]) d_Sc_save_38 (by decide) rfl rfl rfl ?_
  refine S_iincN (a := 4) (b := 28) (L' := [(4, .int (nI 32)), (5, .int (nI 8)), (2, .long z96), (6, .int (nI 24)), (0, .ref 183), (1, .ref to)]) d_Sc_save_41 (by decide) rfl rfl rfl ?_
  refine ST.lift (fun _ _ k => T_aload_n (v := .ref to) d_Sc_save_44 rfl (Or.inr ⟨_, rfl⟩) k) ?_
  refine ST.lift (fun _ _ k => T_iload d_Sc_save_45 rfl k) ?_
  refine ST.lift (fun _ _ k => T_lload_n d_Sc_save_47 rfl k) ?_
  refine ST.lift (fun _ _ k => T_l2i d_Sc_save_48 k) (S_anyi fun z97 => ?_)
  refine ST.lift (fun _ _ k => T_i2b d_Sc_save_49 k) (S_anyi fun z98 => ?_)
  refine S_bastore d_Sc_save_50 w_to a_to (vp_in_nI (by omega) (by omega)) ?_
  refine ST.lift (fun _ _ k => T_lload_n d_Sc_save_51 rfl k) ?_
  refine ST.lift (fun _ _ k => T_bipush (v := nI 8) d_Sc_save_52 (by decide) k) ?_
  refine ST.lift (fun _ _ k => T_lshr d_Sc_save_54 k) (S_anyl fun z99 => ?_)
  refine ST.lift (fun _ _ k => T_lstore_n (L' := [(2, .long z99), (4, .int (nI 32)), (5, .int (nI 8)), (6, .int (nI 24)), (0, .ref 183), (1, .ref to)]) d_Sc_save_55 (by decide) rfl k) ?_
  refine ST.lift (fun _ _ k => T_iinc (x := nI 32) (L' := [(4, .int (nI 24)), (2, .long z99), (5, .int (nI 8)), (6, .int (nI 24)), (0, .ref 183), (1, .ref to)]) d_Sc_save_56 (by decide) rfl (by rw [show nI 32 + Int32.ofInt (-8) = nI 24 by decide]; rfl) k) ?_
  refine S_iincN (a := 24) (b := 1) (L' := [(6, .int (nI 25)), (4, .int (nI 24)), (2, .long z99), (5, .int (nI 8)), (0, .ref 183), (1, .ref to)]) d_Sc_save_59 (by decide) rfl rfl rfl ?_
  refine ST.lift (fun _ _ k => T_goto (tgt := 11) d_Sc_save_62 rfl k) ?_
  refine ST.lift (fun _ _ k => T_iload d_Sc_save_11 rfl k) ?_
  refine ST.lift (fun _ _ k => T_bipush (v := nI 32) d_Sc_save_13 (by decide) k) ?_
  refine S_icmp_geN d_Sc_save_15 rfl (by omega) (by omega) (fun c => by first | exact absurd c (by omega) | exact c.elim | exact absurd c (by decide) | exact absurd (by assumption) c | exact absurd c (by assumption)) (fun _ => ?_)
  refine ST.lift (fun _ _ k => T_iload d_Sc_save_18 rfl k) ?_
  refine ST.lift (fun _ _ k => T_bipush (v := nI 8) d_Sc_save_20 (by decide) k) ?_
  refine S_icmp_geN d_Sc_save_22 rfl (by omega) (by omega) (fun _ => ?_) (fun c => by first | exact absurd c (by omega) | exact c.elim | exact absurd c (by decide) | exact absurd (by assumption) c | exact absurd c (by assumption))
  refine ST.lift (fun _ _ k => T_aload_n (v := .ref to) d_Sc_save_44 rfl (Or.inr ⟨_, rfl⟩) k) ?_
  refine ST.lift (fun _ _ k => T_iload d_Sc_save_45 rfl k) ?_
  refine ST.lift (fun _ _ k => T_lload_n d_Sc_save_47 rfl k) ?_
  refine ST.lift (fun _ _ k => T_l2i d_Sc_save_48 k) (S_anyi fun z100 => ?_)
  refine ST.lift (fun _ _ k => T_i2b d_Sc_save_49 k) (S_anyi fun z101 => ?_)
  refine S_bastore d_Sc_save_50 w_to a_to (vp_in_nI (by omega) (by omega)) ?_
  refine ST.lift (fun _ _ k => T_lload_n d_Sc_save_51 rfl k) ?_
  refine ST.lift (fun _ _ k => T_bipush (v := nI 8) d_Sc_save_52 (by decide) k) ?_
  refine ST.lift (fun _ _ k => T_lshr d_Sc_save_54 k) (S_anyl fun z102 => ?_)
  refine ST.lift (fun _ _ k => T_lstore_n (L' := [(2, .long z102), (6, .int (nI 25)), (4, .int (nI 24)), (5, .int (nI 8)), (0, .ref 183), (1, .ref to)]) d_Sc_save_55 (by decide) rfl k) ?_
  refine ST.lift (fun _ _ k => T_iinc (x := nI 24) (L' := [(4, .int (nI 16)), (2, .long z102), (6, .int (nI 25)), (5, .int (nI 8)), (0, .ref 183), (1, .ref to)]) d_Sc_save_56 (by decide) rfl (by rw [show nI 24 + Int32.ofInt (-8) = nI 16 by decide]; rfl) k) ?_
  refine S_iincN (a := 25) (b := 1) (L' := [(6, .int (nI 26)), (4, .int (nI 16)), (2, .long z102), (5, .int (nI 8)), (0, .ref 183), (1, .ref to)]) d_Sc_save_59 (by decide) rfl rfl rfl ?_
  refine ST.lift (fun _ _ k => T_goto (tgt := 11) d_Sc_save_62 rfl k) ?_
  refine ST.lift (fun _ _ k => T_iload d_Sc_save_11 rfl k) ?_
  refine ST.lift (fun _ _ k => T_bipush (v := nI 32) d_Sc_save_13 (by decide) k) ?_
  refine S_icmp_geN d_Sc_save_15 rfl (by omega) (by omega) (fun c => by first | exact absurd c (by omega) | exact c.elim | exact absurd c (by decide) | exact absurd (by assumption) c | exact absurd c (by assumption)) (fun _ => ?_)
  refine ST.lift (fun _ _ k => T_iload d_Sc_save_18 rfl k) ?_
  refine ST.lift (fun _ _ k => T_bipush (v := nI 8) d_Sc_save_20 (by decide) k) ?_
  refine S_icmp_geN d_Sc_save_22 rfl (by omega) (by omega) (fun _ => ?_) (fun c => by first | exact absurd c (by omega) | exact c.elim | exact absurd c (by decide) | exact absurd (by assumption) c | exact absurd c (by assumption))
  refine ST.lift (fun _ _ k => T_aload_n (v := .ref to) d_Sc_save_44 rfl (Or.inr ⟨_, rfl⟩) k) ?_
  refine ST.lift (fun _ _ k => T_iload d_Sc_save_45 rfl k) ?_
  refine ST.lift (fun _ _ k => T_lload_n d_Sc_save_47 rfl k) ?_
  refine ST.lift (fun _ _ k => T_l2i d_Sc_save_48 k) (S_anyi fun z103 => ?_)
  refine ST.lift (fun _ _ k => T_i2b d_Sc_save_49 k) (S_anyi fun z104 => ?_)
  refine S_bastore d_Sc_save_50 w_to a_to (vp_in_nI (by omega) (by omega)) ?_
  refine ST.lift (fun _ _ k => T_lload_n d_Sc_save_51 rfl k) ?_
  refine ST.lift (fun _ _ k => T_bipush (v := nI 8) d_Sc_save_52 (by decide) k) ?_
  refine ST.lift (fun _ _ k => T_lshr d_Sc_save_54 k) (S_anyl fun z105 => ?_)
  refine ST.lift (fun _ _ k => T_lstore_n (L' := [(2, .long z105), (6, .int (nI 26)), (4, .int (nI 16)), (5, .int (nI 8)), (0, .ref 183), (1, .ref to)]) d_Sc_save_55 (by decide) rfl k) ?_
  refine ST.lift (fun _ _ k => T_iinc (x := nI 16) (L' := [(4, .int (nI 8)), (2, .long z105), (6, .int (nI 26)), (5, .int (nI 8)), (0, .ref 183), (1, .ref to)]) d_Sc_save_56 (by decide) rfl (by rw [show nI 16 + Int32.ofInt (-8) = nI 8 by decide]; rfl) k) ?_
  refine S_iincN (a := 26) (b := 1) (L' := [(6, .int (nI 27)), (4, .int (nI 8)), (2, .long z105), (5, .int (nI 8)), (0, .ref 183), (1, .ref to)]) d_Sc_save_59 (by decide) rfl rfl rfl ?_
  refine ST.lift (fun _ _ k => T_goto (tgt := 11) d_Sc_save_62 rfl k) ?_
  refine ST.lift (fun _ _ k => T_iload d_Sc_save_11 rfl k) ?_
  refine ST.lift (fun _ _ k => T_bipush (v := nI 32) d_Sc_save_13 (by decide) k) ?_
  refine S_icmp_geN d_Sc_save_15 rfl (by omega) (by omega) (fun c => by first | exact absurd c (by omega) | exact c.elim | exact absurd c (by decide) | exact absurd (by assumption) c | exact absurd c (by assumption)) (fun _ => ?_)
  refine ST.lift (fun _ _ k => T_iload d_Sc_save_18 rfl k) ?_
  refine ST.lift (fun _ _ k => T_bipush (v := nI 8) d_Sc_save_20 (by decide) k) ?_
  refine S_icmp_geN d_Sc_save_22 rfl (by omega) (by omega) (fun _ => ?_) (fun c => by first | exact absurd c (by omega) | exact c.elim | exact absurd c (by decide) | exact absurd (by assumption) c | exact absurd c (by assumption))
  refine ST.lift (fun _ _ k => T_aload_n (v := .ref to) d_Sc_save_44 rfl (Or.inr ⟨_, rfl⟩) k) ?_
  refine ST.lift (fun _ _ k => T_iload d_Sc_save_45 rfl k) ?_
  refine ST.lift (fun _ _ k => T_lload_n d_Sc_save_47 rfl k) ?_
  refine ST.lift (fun _ _ k => T_l2i d_Sc_save_48 k) (S_anyi fun z106 => ?_)
  refine ST.lift (fun _ _ k => T_i2b d_Sc_save_49 k) (S_anyi fun z107 => ?_)
  refine S_bastore d_Sc_save_50 w_to a_to (vp_in_nI (by omega) (by omega)) ?_
  refine ST.lift (fun _ _ k => T_lload_n d_Sc_save_51 rfl k) ?_
  refine ST.lift (fun _ _ k => T_bipush (v := nI 8) d_Sc_save_52 (by decide) k) ?_
  refine ST.lift (fun _ _ k => T_lshr d_Sc_save_54 k) (S_anyl fun z108 => ?_)
  refine ST.lift (fun _ _ k => T_lstore_n (L' := [(2, .long z108), (6, .int (nI 27)), (4, .int (nI 8)), (5, .int (nI 8)), (0, .ref 183), (1, .ref to)]) d_Sc_save_55 (by decide) rfl k) ?_
  refine ST.lift (fun _ _ k => T_iinc (x := nI 8) (L' := [(4, .int (nI 0)), (2, .long z108), (6, .int (nI 27)), (5, .int (nI 8)), (0, .ref 183), (1, .ref to)]) d_Sc_save_56 (by decide) rfl (by rw [show nI 8 + Int32.ofInt (-8) = nI 0 by decide]; rfl) k) ?_
  refine S_iincN (a := 27) (b := 1) (L' := [(6, .int (nI 28)), (4, .int (nI 0)), (2, .long z108), (5, .int (nI 8)), (0, .ref 183), (1, .ref to)]) d_Sc_save_59 (by decide) rfl rfl rfl ?_
  refine ST.lift (fun _ _ k => T_goto (tgt := 11) d_Sc_save_62 rfl k) ?_
  refine ST.lift (fun _ _ k => T_iload d_Sc_save_11 rfl k) ?_
  refine ST.lift (fun _ _ k => T_bipush (v := nI 32) d_Sc_save_13 (by decide) k) ?_
  refine S_icmp_geN d_Sc_save_15 rfl (by omega) (by omega) (fun c => by first | exact absurd c (by omega) | exact c.elim | exact absurd c (by decide) | exact absurd (by assumption) c | exact absurd c (by assumption)) (fun _ => ?_)
  refine ST.lift (fun _ _ k => T_iload d_Sc_save_18 rfl k) ?_
  refine ST.lift (fun _ _ k => T_bipush (v := nI 8) d_Sc_save_20 (by decide) k) ?_
  refine S_icmp_geN d_Sc_save_22 rfl (by omega) (by omega) (fun c => by first | exact absurd c (by omega) | exact c.elim | exact absurd c (by decide) | exact absurd (by assumption) c | exact absurd c (by assumption)) (fun _ => ?_)
  refine ST.lift (fun _ _ k => T_lload_n d_Sc_save_25 rfl k) ?_
  refine ST.lift (fun _ _ k => T_aload_n (v := .ref 183) d_Sc_save_26 rfl (Or.inr ⟨_, rfl⟩) k) ?_
  refine S_getfield d_Sc_save_27 fg_Sc_9 (w183 _) rfl ?_
  refine ST.lift (fun _ _ k => T_iload d_Sc_save_30 rfl k) ?_
  refine S_laload d_Sc_save_32 a184 (vp_in_nI (by omega) (by omega)) (fun z109 => ?_)
  refine ST.lift (fun _ _ k => T_iload d_Sc_save_33 rfl k) ?_
  refine ST.lift (fun _ _ k => T_lshl d_Sc_save_35 k) (S_anyl fun z110 => ?_)
  refine ST.lift (fun _ _ k => T_lor d_Sc_save_36 k) (S_anyl fun z111 => ?_)
  refine ST.lift (fun _ _ k => T_lstore_n (L' := [(2, .long z111), (6, .int (nI 28)), (4, .int (nI 0)), (5, .int (nI 8)), (0, .ref 183), (1, .ref to)]) d_Sc_save_37 (by decide) rfl k) ?_
  refine S_iincN (a := 8) (b := 1) (L' := [(5, .int (nI 9)), (2, .long z111), (6, .int (nI 28)), (4, .int (nI 0)), (0, .ref 183), (1, .ref to)]) d_Sc_save_38 (by decide) rfl rfl rfl ?_
  refine S_iincN (a := 0) (b := 28) (L' := [(4, .int (nI 28)), (5, .int (nI 9)), (2, .long z111), (6, .int (nI 28)), (0, .ref 183), (1, .ref to)]) d_Sc_save_41 (by decide) rfl rfl rfl ?_
  refine ST.lift (fun _ _ k => T_aload_n (v := .ref to) d_Sc_save_44 rfl (Or.inr ⟨_, rfl⟩) k) ?_
  refine ST.lift (fun _ _ k => T_iload d_Sc_save_45 rfl k) ?_
  refine ST.lift (fun _ _ k => T_lload_n d_Sc_save_47 rfl k) ?_
  refine ST.lift (fun _ _ k => T_l2i d_Sc_save_48 k) (S_anyi fun z112 => ?_)
  refine ST.lift (fun _ _ k => T_i2b d_Sc_save_49 k) (S_anyi fun z113 => ?_)
  refine S_bastore d_Sc_save_50 w_to a_to (vp_in_nI (by omega) (by omega)) ?_
  refine ST.lift (fun _ _ k => T_lload_n d_Sc_save_51 rfl k) ?_
  refine ST.lift (fun _ _ k => T_bipush (v := nI 8) d_Sc_save_52 (by decide) k) ?_
  refine ST.lift (fun _ _ k => T_lshr d_Sc_save_54 k) (S_anyl fun z114 => ?_)
  refine ST.lift (fun _ _ k => T_lstore_n (L' := [(2, .long z114), (4, .int (nI 28)), (5, .int (nI 9)), (6, .int (nI 28)), (0, .ref 183), (1, .ref to)]) d_Sc_save_55 (by decide) rfl k) ?_
  refine ST.lift (fun _ _ k => T_iinc (x := nI 28) (L' := [(4, .int (nI 20)), (2, .long z114), (5, .int (nI 9)), (6, .int (nI 28)), (0, .ref 183), (1, .ref to)]) d_Sc_save_56 (by decide) rfl (by rw [show nI 28 + Int32.ofInt (-8) = nI 20 by decide]; rfl) k) ?_
  refine S_iincN (a := 28) (b := 1) (L' := [(6, .int (nI 29)), (4, .int (nI 20)), (2, .long z114), (5, .int (nI 9)), (0, .ref 183), (1, .ref to)]) d_Sc_save_59 (by decide) rfl rfl rfl ?_
  refine ST.lift (fun _ _ k => T_goto (tgt := 11) d_Sc_save_62 rfl k) ?_
  refine ST.lift (fun _ _ k => T_iload d_Sc_save_11 rfl k) ?_
  refine ST.lift (fun _ _ k => T_bipush (v := nI 32) d_Sc_save_13 (by decide) k) ?_
  refine S_icmp_geN d_Sc_save_15 rfl (by omega) (by omega) (fun c => by first | exact absurd c (by omega) | exact c.elim | exact absurd c (by decide) | exact absurd (by assumption) c | exact absurd c (by assumption)) (fun _ => ?_)
  refine ST.lift (fun _ _ k => T_iload d_Sc_save_18 rfl k) ?_
  refine ST.lift (fun _ _ k => T_bipush (v := nI 8) d_Sc_save_20 (by decide) k) ?_
  refine S_icmp_geN d_Sc_save_22 rfl (by omega) (by omega) (fun _ => ?_) (fun c => by first | exact absurd c (by omega) | exact c.elim | exact absurd c (by decide) | exact absurd (by assumption) c | exact absurd c (by assumption))
  refine ST.lift (fun _ _ k => T_aload_n (v := .ref to) d_Sc_save_44 rfl (Or.inr ⟨_, rfl⟩) k) ?_
  refine ST.lift (fun _ _ k => T_iload d_Sc_save_45 rfl k) ?_
  refine ST.lift (fun _ _ k => T_lload_n d_Sc_save_47 rfl k) ?_
  refine ST.lift (fun _ _ k => T_l2i d_Sc_save_48 k) (S_anyi fun z115 => ?_)
  refine ST.lift (fun _ _ k => T_i2b d_Sc_save_49 k) (S_anyi fun z116 => ?_)
  refine S_bastore d_Sc_save_50 w_to a_to (vp_in_nI (by omega) (by omega)) ?_
  refine ST.lift (fun _ _ k => T_lload_n d_Sc_save_51 rfl k) ?_
  refine ST.lift (fun _ _ k => T_bipush (v := nI 8) d_Sc_save_52 (by decide) k) ?_
  refine ST.lift (fun _ _ k => T_lshr d_Sc_save_54 k) (S_anyl fun z117 => ?_)
  refine ST.lift (fun _ _ k => T_lstore_n (L' := [(2, .long z117), (6, .int (nI 29)), (4, .int (nI 20)), (5, .int (nI 9)), (0, .ref 183), (1, .ref to)]) d_Sc_save_55 (by decide) rfl k) ?_
  refine ST.lift (fun _ _ k => T_iinc (x := nI 20) (L' := [(4, .int (nI 12)), (2, .long z117), (6, .int (nI 29)), (5, .int (nI 9)), (0, .ref 183), (1, .ref to)]) d_Sc_save_56 (by decide) rfl (by rw [show nI 20 + Int32.ofInt (-8) = nI 12 by decide]; rfl) k) ?_
  refine S_iincN (a := 29) (b := 1) (L' := [(6, .int (nI 30)), (4, .int (nI 12)), (2, .long z117), (5, .int (nI 9)), (0, .ref 183), (1, .ref to)]) d_Sc_save_59 (by decide) rfl rfl rfl ?_
  refine ST.lift (fun _ _ k => T_goto (tgt := 11) d_Sc_save_62 rfl k) ?_
  refine ST.lift (fun _ _ k => T_iload d_Sc_save_11 rfl k) ?_
  refine ST.lift (fun _ _ k => T_bipush (v := nI 32) d_Sc_save_13 (by decide) k) ?_
  refine S_icmp_geN d_Sc_save_15 rfl (by omega) (by omega) (fun c => by first | exact absurd c (by omega) | exact c.elim | exact absurd c (by decide) | exact absurd (by assumption) c | exact absurd c (by assumption)) (fun _ => ?_)
  refine ST.lift (fun _ _ k => T_iload d_Sc_save_18 rfl k) ?_
  refine ST.lift (fun _ _ k => T_bipush (v := nI 8) d_Sc_save_20 (by decide) k) ?_
  refine S_icmp_geN d_Sc_save_22 rfl (by omega) (by omega) (fun _ => ?_) (fun c => by first | exact absurd c (by omega) | exact c.elim | exact absurd c (by decide) | exact absurd (by assumption) c | exact absurd c (by assumption))
  refine ST.lift (fun _ _ k => T_aload_n (v := .ref to) d_Sc_save_44 rfl (Or.inr ⟨_, rfl⟩) k) ?_
  refine ST.lift (fun _ _ k => T_iload d_Sc_save_45 rfl k) ?_
  refine ST.lift (fun _ _ k => T_lload_n d_Sc_save_47 rfl k) ?_
  refine ST.lift (fun _ _ k => T_l2i d_Sc_save_48 k) (S_anyi fun z118 => ?_)
  refine ST.lift (fun _ _ k => T_i2b d_Sc_save_49 k) (S_anyi fun z119 => ?_)
  refine S_bastore d_Sc_save_50 w_to a_to (vp_in_nI (by omega) (by omega)) ?_
  refine ST.lift (fun _ _ k => T_lload_n d_Sc_save_51 rfl k) ?_
  refine ST.lift (fun _ _ k => T_bipush (v := nI 8) d_Sc_save_52 (by decide) k) ?_
  refine ST.lift (fun _ _ k => T_lshr d_Sc_save_54 k) (S_anyl fun z120 => ?_)
  refine ST.lift (fun _ _ k => T_lstore_n (L' := [(2, .long z120), (6, .int (nI 30)), (4, .int (nI 12)), (5, .int (nI 9)), (0, .ref 183), (1, .ref to)]) d_Sc_save_55 (by decide) rfl k) ?_
  refine ST.lift (fun _ _ k => T_iinc (x := nI 12) (L' := [(4, .int (nI 4)), (2, .long z120), (6, .int (nI 30)), (5, .int (nI 9)), (0, .ref 183), (1, .ref to)]) d_Sc_save_56 (by decide) rfl (by rw [show nI 12 + Int32.ofInt (-8) = nI 4 by decide]; rfl) k) ?_
  refine S_iincN (a := 30) (b := 1) (L' := [(6, .int (nI 31)), (4, .int (nI 4)), (2, .long z120), (5, .int (nI 9)), (0, .ref 183), (1, .ref to)]) d_Sc_save_59 (by decide) rfl rfl rfl ?_
  refine ST.lift (fun _ _ k => T_goto (tgt := 11) d_Sc_save_62 rfl k) ?_
  refine ST.lift (fun _ _ k => T_iload d_Sc_save_11 rfl k) ?_
  refine ST.lift (fun _ _ k => T_bipush (v := nI 32) d_Sc_save_13 (by decide) k) ?_
  refine S_icmp_geN d_Sc_save_15 rfl (by omega) (by omega) (fun c => by first | exact absurd c (by omega) | exact c.elim | exact absurd c (by decide) | exact absurd (by assumption) c | exact absurd c (by assumption)) (fun _ => ?_)
  refine ST.lift (fun _ _ k => T_iload d_Sc_save_18 rfl k) ?_
  refine ST.lift (fun _ _ k => T_bipush (v := nI 8) d_Sc_save_20 (by decide) k) ?_
  refine S_icmp_geN d_Sc_save_22 rfl (by omega) (by omega) (fun c => by first | exact absurd c (by omega) | exact c.elim | exact absurd c (by decide) | exact absurd (by assumption) c | exact absurd c (by assumption)) (fun _ => ?_)
  refine ST.lift (fun _ _ k => T_lload_n d_Sc_save_25 rfl k) ?_
  refine ST.lift (fun _ _ k => T_aload_n (v := .ref 183) d_Sc_save_26 rfl (Or.inr ⟨_, rfl⟩) k) ?_
  refine S_getfield d_Sc_save_27 fg_Sc_9 (w183 _) rfl ?_
  refine ST.lift (fun _ _ k => T_iload d_Sc_save_30 rfl k) ?_
  refine S_laload d_Sc_save_32 a184 (vp_in_nI (by omega) (by omega)) (fun z121 => ?_)
  refine ST.lift (fun _ _ k => T_iload d_Sc_save_33 rfl k) ?_
  refine ST.lift (fun _ _ k => T_lshl d_Sc_save_35 k) (S_anyl fun z122 => ?_)
  refine ST.lift (fun _ _ k => T_lor d_Sc_save_36 k) (S_anyl fun z123 => ?_)
  refine ST.lift (fun _ _ k => T_lstore_n (L' := [(2, .long z123), (6, .int (nI 31)), (4, .int (nI 4)), (5, .int (nI 9)), (0, .ref 183), (1, .ref to)]) d_Sc_save_37 (by decide) rfl k) ?_
  refine S_iincN (a := 9) (b := 1) (L' := [(5, .int (nI 10)), (2, .long z123), (6, .int (nI 31)), (4, .int (nI 4)), (0, .ref 183), (1, .ref to)]) d_Sc_save_38 (by decide) rfl rfl rfl ?_
  refine S_iincN (a := 4) (b := 28) (L' := [(4, .int (nI 32)), (5, .int (nI 10)), (2, .long z123), (6, .int (nI 31)), (0, .ref 183), (1, .ref to)]) d_Sc_save_41 (by decide) rfl rfl rfl ?_
  refine ST.lift (fun _ _ k => T_aload_n (v := .ref to) d_Sc_save_44 rfl (Or.inr ⟨_, rfl⟩) k) ?_
  refine ST.lift (fun _ _ k => T_iload d_Sc_save_45 rfl k) ?_
  refine ST.lift (fun _ _ k => T_lload_n d_Sc_save_47 rfl k) ?_
  refine ST.lift (fun _ _ k => T_l2i d_Sc_save_48 k) (S_anyi fun z124 => ?_)
  refine ST.lift (fun _ _ k => T_i2b d_Sc_save_49 k) (S_anyi fun z125 => ?_)
  refine S_bastore d_Sc_save_50 w_to a_to (vp_in_nI (by omega) (by omega)) ?_
  refine ST.lift (fun _ _ k => T_lload_n d_Sc_save_51 rfl k) ?_
  refine ST.lift (fun _ _ k => T_bipush (v := nI 8) d_Sc_save_52 (by decide) k) ?_
  refine ST.lift (fun _ _ k => T_lshr d_Sc_save_54 k) (S_anyl fun z126 => ?_)
  refine ST.lift (fun _ _ k => T_lstore_n (L' := [(2, .long z126), (4, .int (nI 32)), (5, .int (nI 10)), (6, .int (nI 31)), (0, .ref 183), (1, .ref to)]) d_Sc_save_55 (by decide) rfl k) ?_
  refine ST.lift (fun _ _ k => T_iinc (x := nI 32) (L' := [(4, .int (nI 24)), (2, .long z126), (5, .int (nI 10)), (6, .int (nI 31)), (0, .ref 183), (1, .ref to)]) d_Sc_save_56 (by decide) rfl (by rw [show nI 32 + Int32.ofInt (-8) = nI 24 by decide]; rfl) k) ?_
  refine S_iincN (a := 31) (b := 1) (L' := [(6, .int (nI 32)), (4, .int (nI 24)), (2, .long z126), (5, .int (nI 10)), (0, .ref 183), (1, .ref to)]) d_Sc_save_59 (by decide) rfl rfl rfl ?_
  refine ST.lift (fun _ _ k => T_goto (tgt := 11) d_Sc_save_62 rfl k) ?_
  refine ST.lift (fun _ _ k => T_iload d_Sc_save_11 rfl k) ?_
  refine ST.lift (fun _ _ k => T_bipush (v := nI 32) d_Sc_save_13 (by decide) k) ?_
  refine S_icmp_geN d_Sc_save_15 rfl (by omega) (by omega) (fun _ => ?_) (fun c => by first | exact absurd c (by omega) | exact c.elim | exact absurd c (by decide) | exact absurd (by assumption) c | exact absurd c (by assumption))
  exact S_vret d_Sc_save_65 rfl (by decide) (by decide) hQ
set_option maxRecDepth 100000 in
set_option maxHeartbeats 4000000 in
theorem c_Sc_multiply (G : GX) (v : Nat → Int32) (f : Nat) (w_f : K0 ≤ f) (a_f : aL f 20) (g : Nat) (a_g : aL g 20) : CS G mi_Sc_multiply [.ref 183, .ref f, .ref g] v (fun r v' => r = none ∧ v' = v) := by
  refine CS.of (by decide) (Nat.le_of_ble_eq_true rfl) ?_
  generalize hQe : (fun (r : Option Value) (v' : Nat → Int32) => r = none ∧ v' = v) = Q
  have hQ : Q none v := by rw [← hQe]; exact ⟨rfl, rfl⟩
  clear hQe
  show ST G mi_Sc_multiply 0 [(0, .ref 183), (1, .ref f), (2, .ref g)] [] v 0 0 Q
  refine ST.lift (fun _ _ k => T_iconst (v := nI 0) d_Sc_multiply_0 (by decide) k) ?_
  refine ST.lift (fun _ _ k => T_istore_n (L' := [(3, .int (nI 0)), (0, .ref 183), (1, .ref f), (2, .ref g)]) d_Sc_multiply_1 (by decide) rfl k) ?_
  refine ST.lift (fun _ _ k => T_iload_n d_Sc_multiply_2 rfl k) ?_
  refine ST.lift (fun _ _ k => T_bipush (v := nI 20) d_Sc_multiply_3 (by decide) k) ?_
  refine S_icmp_geN d_Sc_multiply_5 rfl (by omega) (by omega) (fun c => by first | exact absurd c (by omega) | exact c.elim | exact absurd c (by decide) | exact absurd (by assumption) c | exact absurd c (by assumption)) (fun _ => ?_)
  refine ST.lift (fun _ _ k => T_aload_n (v := .ref 183) d_Sc_multiply_8 rfl (Or.inr ⟨_, rfl⟩) k) ?_
  refine S_getfield d_Sc_multiply_9 fg_Sc_13 (w183 _) rfl ?_
  refine ST.lift (fun _ _ k => T_iload_n d_Sc_multiply_12 rfl k) ?_
  refine ST.lift (fun _ _ k => T_lconst (v := 0) d_Sc_multiply_13 (by decide) k) ?_
  refine S_lastore d_Sc_multiply_14 (by decide) a185 (vp_in_nI (by omega) (by omega)) ?_
  refine S_iincN (a := 0) (b := 1) (L' := [(3, .int (nI 1)), (0, .ref 183), (1, .ref f), (2, .ref g)]) d_Sc_multiply_15 (by decide) rfl rfl rfl ?_
  refine ST.lift (fun _ _ k => T_goto (tgt := 2) d_Sc_multiply_18 rfl k) ?_
  refine ST.lift (fun _ _ k => T_iload_n d_Sc_multiply_2 rfl k) ?_
  refine ST.lift (fun _ _ k => T_bipush (v := nI 20) d_Sc_multiply_3 (by decide) k) ?_
  refine S_icmp_geN d_Sc_multiply_5 rfl (by omega) (by omega) (fun c => by first | exact absurd c (by omega) | exact c.elim | exact absurd c (by decide) | exact absurd (by assumption) c | exact absurd c (by assumption)) (fun _ => ?_)
  refine ST.lift (fun _ _ k => T_aload_n (v := .ref 183) d_Sc_multiply_8 rfl (Or.inr ⟨_, rfl⟩) k) ?_
  refine S_getfield d_Sc_multiply_9 fg_Sc_13 (w183 _) rfl ?_
  refine ST.lift (fun _ _ k => T_iload_n d_Sc_multiply_12 rfl k) ?_
  refine ST.lift (fun _ _ k => T_lconst (v := 0) d_Sc_multiply_13 (by decide) k) ?_
  refine S_lastore d_Sc_multiply_14 (by decide) a185 (vp_in_nI (by omega) (by omega)) ?_
  refine S_iincN (a := 1) (b := 1) (L' := [(3, .int (nI 2)), (0, .ref 183), (1, .ref f), (2, .ref g)]) d_Sc_multiply_15 (by decide) rfl rfl rfl ?_
  refine ST.lift (fun _ _ k => T_goto (tgt := 2) d_Sc_multiply_18 rfl k) ?_
  refine ST.lift (fun _ _ k => T_iload_n d_Sc_multiply_2 rfl k) ?_
  refine ST.lift (fun _ _ k => T_bipush (v := nI 20) d_Sc_multiply_3 (by decide) k) ?_
  refine S_icmp_geN d_Sc_multiply_5 rfl (by omega) (by omega) (fun c => by first | exact absurd c (by omega) | exact c.elim | exact absurd c (by decide) | exact absurd (by assumption) c | exact absurd c (by assumption)) (fun _ => ?_)
  refine ST.lift (fun _ _ k => T_aload_n (v := .ref 183) d_Sc_multiply_8 rfl (Or.inr ⟨_, rfl⟩) k) ?_
  refine S_getfield d_Sc_multiply_9 fg_Sc_13 (w183 _) rfl ?_
  refine ST.lift (fun _ _ k => T_iload_n d_Sc_multiply_12 rfl k) ?_
  refine ST.lift (fun _ _ k => T_lconst (v := 0) d_Sc_multiply_13 (by decide) k) ?_
  refine S_lastore d_Sc_multiply_14 (by decide) a185 (vp_in_nI (by omega) (by omega)) ?_
  refine S_iincN (a := 2) (b := 1) (L' := [(3, .int (nI 3)), (0, .ref 183), (1, .ref f), (2, .ref g)]) d_Sc_multiply_15 (by decide) rfl rfl rfl ?_
  refine ST.lift (fun _ _ k => T_goto (tgt := 2) d_Sc_multiply_18 rfl k) ?_
  refine ST.lift (fun _ _ k => T_iload_n d_Sc_multiply_2 rfl k) ?_
  refine ST.lift (fun _ _ k => T_bipush (v := nI 20) d_Sc_multiply_3 (by decide) k) ?_
  refine S_icmp_geN d_Sc_multiply_5 rfl (by omega) (by omega) (fun c => by first | exact absurd c (by omega) | exact c.elim | exact absurd c (by decide) | exact absurd (by assumption) c | exact absurd c (by assumption)) (fun _ => ?_)
  refine ST.lift (fun _ _ k => T_aload_n (v := .ref 183) d_Sc_multiply_8 rfl (Or.inr ⟨_, rfl⟩) k) ?_
  refine S_getfield d_Sc_multiply_9 fg_Sc_13 (w183 _) rfl ?_
  refine ST.lift (fun _ _ k => T_iload_n d_Sc_multiply_12 rfl k) ?_
  refine ST.lift (fun _ _ k => T_lconst (v := 0) d_Sc_multiply_13 (by decide) k) ?_
  refine S_lastore d_Sc_multiply_14 (by decide) a185 (vp_in_nI (by omega) (by omega)) ?_
  refine S_iincN (a := 3) (b := 1) (L' := [(3, .int (nI 4)), (0, .ref 183), (1, .ref f), (2, .ref g)]) d_Sc_multiply_15 (by decide) rfl rfl rfl ?_
  refine ST.lift (fun _ _ k => T_goto (tgt := 2) d_Sc_multiply_18 rfl k) ?_
  refine ST.lift (fun _ _ k => T_iload_n d_Sc_multiply_2 rfl k) ?_
  refine ST.lift (fun _ _ k => T_bipush (v := nI 20) d_Sc_multiply_3 (by decide) k) ?_
  refine S_icmp_geN d_Sc_multiply_5 rfl (by omega) (by omega) (fun c => by first | exact absurd c (by omega) | exact c.elim | exact absurd c (by decide) | exact absurd (by assumption) c | exact absurd c (by assumption)) (fun _ => ?_)
  refine ST.lift (fun _ _ k => T_aload_n (v := .ref 183) d_Sc_multiply_8 rfl (Or.inr ⟨_, rfl⟩) k) ?_
  refine S_getfield d_Sc_multiply_9 fg_Sc_13 (w183 _) rfl ?_
  refine ST.lift (fun _ _ k => T_iload_n d_Sc_multiply_12 rfl k) ?_
  refine ST.lift (fun _ _ k => T_lconst (v := 0) d_Sc_multiply_13 (by decide) k) ?_
  refine S_lastore d_Sc_multiply_14 (by decide) a185 (vp_in_nI (by omega) (by omega)) ?_
  refine S_iincN (a := 4) (b := 1) (L' := [(3, .int (nI 5)), (0, .ref 183), (1, .ref f), (2, .ref g)]) d_Sc_multiply_15 (by decide) rfl rfl rfl ?_
  refine ST.lift (fun _ _ k => T_goto (tgt := 2) d_Sc_multiply_18 rfl k) ?_
  refine ST.lift (fun _ _ k => T_iload_n d_Sc_multiply_2 rfl k) ?_
  refine ST.lift (fun _ _ k => T_bipush (v := nI 20) d_Sc_multiply_3 (by decide) k) ?_
  refine S_icmp_geN d_Sc_multiply_5 rfl (by omega) (by omega) (fun c => by first | exact absurd c (by omega) | exact c.elim | exact absurd c (by decide) | exact absurd (by assumption) c | exact absurd c (by assumption)) (fun _ => ?_)
  refine ST.lift (fun _ _ k => T_aload_n (v := .ref 183) d_Sc_multiply_8 rfl (Or.inr ⟨_, rfl⟩) k) ?_
  refine S_getfield d_Sc_multiply_9 fg_Sc_13 (w183 _) rfl ?_
  refine ST.lift (fun _ _ k => T_iload_n d_Sc_multiply_12 rfl k) ?_
  refine ST.lift (fun _ _ k => T_lconst (v := 0) d_Sc_multiply_13 (by decide) k) ?_
  refine S_lastore d_Sc_multiply_14 (by decide) a185 (vp_in_nI (by omega) (by omega)) ?_
  refine S_iincN (a := 5) (b := 1) (L' := [(3, .int (nI 6)), (0, .ref 183), (1, .ref f), (2, .ref g)]) d_Sc_multiply_15 (by decide) rfl rfl rfl ?_
  refine ST.lift (fun _ _ k => T_goto (tgt := 2) d_Sc_multiply_18 rfl k) ?_
  refine ST.lift (fun _ _ k => T_iload_n d_Sc_multiply_2 rfl k) ?_
  refine ST.lift (fun _ _ k => T_bipush (v := nI 20) d_Sc_multiply_3 (by decide) k) ?_
  refine S_icmp_geN d_Sc_multiply_5 rfl (by omega) (by omega) (fun c => by first | exact absurd c (by omega) | exact c.elim | exact absurd c (by decide) | exact absurd (by assumption) c | exact absurd c (by assumption)) (fun _ => ?_)
  refine ST.lift (fun _ _ k => T_aload_n (v := .ref 183) d_Sc_multiply_8 rfl (Or.inr ⟨_, rfl⟩) k) ?_
  refine S_getfield d_Sc_multiply_9 fg_Sc_13 (w183 _) rfl ?_
  refine ST.lift (fun _ _ k => T_iload_n d_Sc_multiply_12 rfl k) ?_
  refine ST.lift (fun _ _ k => T_lconst (v := 0) d_Sc_multiply_13 (by decide) k) ?_
  refine S_lastore d_Sc_multiply_14 (by decide) a185 (vp_in_nI (by omega) (by omega)) ?_
  refine S_iincN (a := 6) (b := 1) (L' := [(3, .int (nI 7)), (0, .ref 183), (1, .ref f), (2, .ref g)]) d_Sc_multiply_15 (by decide) rfl rfl rfl ?_
  refine ST.lift (fun _ _ k => T_goto (tgt := 2) d_Sc_multiply_18 rfl k) ?_
  refine ST.lift (fun _ _ k => T_iload_n d_Sc_multiply_2 rfl k) ?_
  refine ST.lift (fun _ _ k => T_bipush (v := nI 20) d_Sc_multiply_3 (by decide) k) ?_
  refine S_icmp_geN d_Sc_multiply_5 rfl (by omega) (by omega) (fun c => by first | exact absurd c (by omega) | exact c.elim | exact absurd c (by decide) | exact absurd (by assumption) c | exact absurd c (by assumption)) (fun _ => ?_)
  refine ST.lift (fun _ _ k => T_aload_n (v := .ref 183) d_Sc_multiply_8 rfl (Or.inr ⟨_, rfl⟩) k) ?_
  refine S_getfield d_Sc_multiply_9 fg_Sc_13 (w183 _) rfl ?_
  refine ST.lift (fun _ _ k => T_iload_n d_Sc_multiply_12 rfl k) ?_
  refine ST.lift (fun _ _ k => T_lconst (v := 0) d_Sc_multiply_13 (by decide) k) ?_
  refine S_lastore d_Sc_multiply_14 (by decide) a185 (vp_in_nI (by omega) (by omega)) ?_
  refine S_iincN (a := 7) (b := 1) (L' := [(3, .int (nI 8)), (0, .ref 183), (1, .ref f), (2, .ref g)]) d_Sc_multiply_15 (by decide) rfl rfl rfl ?_
  refine ST.lift (fun _ _ k => T_goto (tgt := 2) d_Sc_multiply_18 rfl k) ?_
  refine ST.lift (fun _ _ k => T_iload_n d_Sc_multiply_2 rfl k) ?_
  refine ST.lift (fun _ _ k => T_bipush (v := nI 20) d_Sc_multiply_3 (by decide) k) ?_
  refine S_icmp_geN d_Sc_multiply_5 rfl (by omega) (by omega) (fun c => by first | exact absurd c (by omega) | exact c.elim | exact absurd c (by decide) | exact absurd (by assumption) c | exact absurd c (by assumption)) (fun _ => ?_)
  refine ST.lift (fun _ _ k => T_aload_n (v := .ref 183) d_Sc_multiply_8 rfl (Or.inr ⟨_, rfl⟩) k) ?_
  refine S_getfield d_Sc_multiply_9 fg_Sc_13 (w183 _) rfl ?_
  refine ST.lift (fun _ _ k => T_iload_n d_Sc_multiply_12 rfl k) ?_
  refine ST.lift (fun _ _ k => T_lconst (v := 0) d_Sc_multiply_13 (by decide) k) ?_
  refine S_lastore d_Sc_multiply_14 (by decide) a185 (vp_in_nI (by omega) (by omega)) ?_
  refine S_iincN (a := 8) (b := 1) (L' := [(3, .int (nI 9)), (0, .ref 183), (1, .ref f), (2, .ref g)]) d_Sc_multiply_15 (by decide) rfl rfl rfl ?_
  refine ST.lift (fun _ _ k => T_goto (tgt := 2) d_Sc_multiply_18 rfl k) ?_
  refine ST.lift (fun _ _ k => T_iload_n d_Sc_multiply_2 rfl k) ?_
  refine ST.lift (fun _ _ k => T_bipush (v := nI 20) d_Sc_multiply_3 (by decide) k) ?_
  refine S_icmp_geN d_Sc_multiply_5 rfl (by omega) (by omega) (fun c => by first | exact absurd c (by omega) | exact c.elim | exact absurd c (by decide) | exact absurd (by assumption) c | exact absurd c (by assumption)) (fun _ => ?_)
  refine ST.lift (fun _ _ k => T_aload_n (v := .ref 183) d_Sc_multiply_8 rfl (Or.inr ⟨_, rfl⟩) k) ?_
  refine S_getfield d_Sc_multiply_9 fg_Sc_13 (w183 _) rfl ?_
  refine ST.lift (fun _ _ k => T_iload_n d_Sc_multiply_12 rfl k) ?_
  refine ST.lift (fun _ _ k => T_lconst (v := 0) d_Sc_multiply_13 (by decide) k) ?_
  refine S_lastore d_Sc_multiply_14 (by decide) a185 (vp_in_nI (by omega) (by omega)) ?_
  refine S_iincN (a := 9) (b := 1) (L' := [(3, .int (nI 10)), (0, .ref 183), (1, .ref f), (2, .ref g)]) d_Sc_multiply_15 (by decide) rfl rfl rfl ?_
  refine ST.lift (fun _ _ k => T_goto (tgt := 2) d_Sc_multiply_18 rfl k) ?_
  refine ST.lift (fun _ _ k => T_iload_n d_Sc_multiply_2 rfl k) ?_
  refine ST.lift (fun _ _ k => T_bipush (v := nI 20) d_Sc_multiply_3 (by decide) k) ?_
  refine S_icmp_geN d_Sc_multiply_5 rfl (by omega) (by omega) (fun c => by first | exact absurd c (by omega) | exact c.elim | exact absurd c (by decide) | exact absurd (by assumption) c | exact absurd c (by assumption)) (fun _ => ?_)
  refine ST.lift (fun _ _ k => T_aload_n (v := .ref 183) d_Sc_multiply_8 rfl (Or.inr ⟨_, rfl⟩) k) ?_
  refine S_getfield d_Sc_multiply_9 fg_Sc_13 (w183 _) rfl ?_
  refine ST.lift (fun _ _ k => T_iload_n d_Sc_multiply_12 rfl k) ?_
  refine ST.lift (fun _ _ k => T_lconst (v := 0) d_Sc_multiply_13 (by decide) k) ?_
  refine S_lastore d_Sc_multiply_14 (by decide) a185 (vp_in_nI (by omega) (by omega)) ?_
  refine S_iincN (a := 10) (b := 1) (L' := [(3, .int (nI 11)), (0, .ref 183), (1, .ref f), (2, .ref g)]) d_Sc_multiply_15 (by decide) rfl rfl rfl ?_
  refine ST.lift (fun _ _ k => T_goto (tgt := 2) d_Sc_multiply_18 rfl k) ?_
  refine ST.lift (fun _ _ k => T_iload_n d_Sc_multiply_2 rfl k) ?_
  refine ST.lift (fun _ _ k => T_bipush (v := nI 20) d_Sc_multiply_3 (by decide) k) ?_
  refine S_icmp_geN d_Sc_multiply_5 rfl (by omega) (by omega) (fun c => by first | exact absurd c (by omega) | exact c.elim | exact absurd c (by decide) | exact absurd (by assumption) c | exact absurd c (by assumption)) (fun _ => ?_)
  refine ST.lift (fun _ _ k => T_aload_n (v := .ref 183) d_Sc_multiply_8 rfl (Or.inr ⟨_, rfl⟩) k) ?_
  refine S_getfield d_Sc_multiply_9 fg_Sc_13 (w183 _) rfl ?_
  refine ST.lift (fun _ _ k => T_iload_n d_Sc_multiply_12 rfl k) ?_
  refine ST.lift (fun _ _ k => T_lconst (v := 0) d_Sc_multiply_13 (by decide) k) ?_
  refine S_lastore d_Sc_multiply_14 (by decide) a185 (vp_in_nI (by omega) (by omega)) ?_
  refine S_iincN (a := 11) (b := 1) (L' := [(3, .int (nI 12)), (0, .ref 183), (1, .ref f), (2, .ref g)]) d_Sc_multiply_15 (by decide) rfl rfl rfl ?_
  refine ST.lift (fun _ _ k => T_goto (tgt := 2) d_Sc_multiply_18 rfl k) ?_
  refine ST.lift (fun _ _ k => T_iload_n d_Sc_multiply_2 rfl k) ?_
  refine ST.lift (fun _ _ k => T_bipush (v := nI 20) d_Sc_multiply_3 (by decide) k) ?_
  refine S_icmp_geN d_Sc_multiply_5 rfl (by omega) (by omega) (fun c => by first | exact absurd c (by omega) | exact c.elim | exact absurd c (by decide) | exact absurd (by assumption) c | exact absurd c (by assumption)) (fun _ => ?_)
  refine ST.lift (fun _ _ k => T_aload_n (v := .ref 183) d_Sc_multiply_8 rfl (Or.inr ⟨_, rfl⟩) k) ?_
  refine S_getfield d_Sc_multiply_9 fg_Sc_13 (w183 _) rfl ?_
  refine ST.lift (fun _ _ k => T_iload_n d_Sc_multiply_12 rfl k) ?_
  refine ST.lift (fun _ _ k => T_lconst (v := 0) d_Sc_multiply_13 (by decide) k) ?_
  refine S_lastore d_Sc_multiply_14 (by decide) a185 (vp_in_nI (by omega) (by omega)) ?_
  refine S_iincN (a := 12) (b := 1) (L' := [(3, .int (nI 13)), (0, .ref 183), (1, .ref f), (2, .ref g)]) d_Sc_multiply_15 (by decide) rfl rfl rfl ?_
  refine ST.lift (fun _ _ k => T_goto (tgt := 2) d_Sc_multiply_18 rfl k) ?_
  refine ST.lift (fun _ _ k => T_iload_n d_Sc_multiply_2 rfl k) ?_
  refine ST.lift (fun _ _ k => T_bipush (v := nI 20) d_Sc_multiply_3 (by decide) k) ?_
  refine S_icmp_geN d_Sc_multiply_5 rfl (by omega) (by omega) (fun c => by first | exact absurd c (by omega) | exact c.elim | exact absurd c (by decide) | exact absurd (by assumption) c | exact absurd c (by assumption)) (fun _ => ?_)
  refine ST.lift (fun _ _ k => T_aload_n (v := .ref 183) d_Sc_multiply_8 rfl (Or.inr ⟨_, rfl⟩) k) ?_
  refine S_getfield d_Sc_multiply_9 fg_Sc_13 (w183 _) rfl ?_
  refine ST.lift (fun _ _ k => T_iload_n d_Sc_multiply_12 rfl k) ?_
  refine ST.lift (fun _ _ k => T_lconst (v := 0) d_Sc_multiply_13 (by decide) k) ?_
  refine S_lastore d_Sc_multiply_14 (by decide) a185 (vp_in_nI (by omega) (by omega)) ?_
  refine S_iincN (a := 13) (b := 1) (L' := [(3, .int (nI 14)), (0, .ref 183), (1, .ref f), (2, .ref g)]) d_Sc_multiply_15 (by decide) rfl rfl rfl ?_
  refine ST.lift (fun _ _ k => T_goto (tgt := 2) d_Sc_multiply_18 rfl k) ?_
  refine ST.lift (fun _ _ k => T_iload_n d_Sc_multiply_2 rfl k) ?_
  refine ST.lift (fun _ _ k => T_bipush (v := nI 20) d_Sc_multiply_3 (by decide) k) ?_
  refine S_icmp_geN d_Sc_multiply_5 rfl (by omega) (by omega) (fun c => by first | exact absurd c (by omega) | exact c.elim | exact absurd c (by decide) | exact absurd (by assumption) c | exact absurd c (by assumption)) (fun _ => ?_)
  refine ST.lift (fun _ _ k => T_aload_n (v := .ref 183) d_Sc_multiply_8 rfl (Or.inr ⟨_, rfl⟩) k) ?_
  refine S_getfield d_Sc_multiply_9 fg_Sc_13 (w183 _) rfl ?_
  refine ST.lift (fun _ _ k => T_iload_n d_Sc_multiply_12 rfl k) ?_
  refine ST.lift (fun _ _ k => T_lconst (v := 0) d_Sc_multiply_13 (by decide) k) ?_
  refine S_lastore d_Sc_multiply_14 (by decide) a185 (vp_in_nI (by omega) (by omega)) ?_
  refine S_iincN (a := 14) (b := 1) (L' := [(3, .int (nI 15)), (0, .ref 183), (1, .ref f), (2, .ref g)]) d_Sc_multiply_15 (by decide) rfl rfl rfl ?_
  refine ST.lift (fun _ _ k => T_goto (tgt := 2) d_Sc_multiply_18 rfl k) ?_
  refine ST.lift (fun _ _ k => T_iload_n d_Sc_multiply_2 rfl k) ?_
  refine ST.lift (fun _ _ k => T_bipush (v := nI 20) d_Sc_multiply_3 (by decide) k) ?_
  refine S_icmp_geN d_Sc_multiply_5 rfl (by omega) (by omega) (fun c => by first | exact absurd c (by omega) | exact c.elim | exact absurd c (by decide) | exact absurd (by assumption) c | exact absurd c (by assumption)) (fun _ => ?_)
  refine ST.lift (fun _ _ k => T_aload_n (v := .ref 183) d_Sc_multiply_8 rfl (Or.inr ⟨_, rfl⟩) k) ?_
  refine S_getfield d_Sc_multiply_9 fg_Sc_13 (w183 _) rfl ?_
  refine ST.lift (fun _ _ k => T_iload_n d_Sc_multiply_12 rfl k) ?_
  refine ST.lift (fun _ _ k => T_lconst (v := 0) d_Sc_multiply_13 (by decide) k) ?_
  refine S_lastore d_Sc_multiply_14 (by decide) a185 (vp_in_nI (by omega) (by omega)) ?_
  refine S_iincN (a := 15) (b := 1) (L' := [(3, .int (nI 16)), (0, .ref 183), (1, .ref f), (2, .ref g)]) d_Sc_multiply_15 (by decide) rfl rfl rfl ?_
  refine ST.lift (fun _ _ k => T_goto (tgt := 2) d_Sc_multiply_18 rfl k) ?_
  refine ST.lift (fun _ _ k => T_iload_n d_Sc_multiply_2 rfl k) ?_
  refine ST.lift (fun _ _ k => T_bipush (v := nI 20) d_Sc_multiply_3 (by decide) k) ?_
  refine S_icmp_geN d_Sc_multiply_5 rfl (by omega) (by omega) (fun c => by first | exact absurd c (by omega) | exact c.elim | exact absurd c (by decide) | exact absurd (by assumption) c | exact absurd c (by assumption)) (fun _ => ?_)
  refine ST.lift (fun _ _ k => T_aload_n (v := .ref 183) d_Sc_multiply_8 rfl (Or.inr ⟨_, rfl⟩) k) ?_
  refine S_getfield d_Sc_multiply_9 fg_Sc_13 (w183 _) rfl ?_
  refine ST.lift (fun _ _ k => T_iload_n d_Sc_multiply_12 rfl k) ?_
  refine ST.lift (fun _ _ k => T_lconst (v := 0) d_Sc_multiply_13 (by decide) k) ?_
  refine S_lastore d_Sc_multiply_14 (by decide) a185 (vp_in_nI (by omega) (by omega)) ?_
  refine S_iincN (a := 16) (b := 1) (L' := [(3, .int (nI 17)), (0, .ref 183), (1, .ref f), (2, .ref g)]) d_Sc_multiply_15 (by decide) rfl rfl rfl ?_
  refine ST.lift (fun _ _ k => T_goto (tgt := 2) d_Sc_multiply_18 rfl k) ?_
  refine ST.lift (fun _ _ k => T_iload_n d_Sc_multiply_2 rfl k) ?_
  refine ST.lift (fun _ _ k => T_bipush (v := nI 20) d_Sc_multiply_3 (by decide) k) ?_
  refine S_icmp_geN d_Sc_multiply_5 rfl (by omega) (by omega) (fun c => by first | exact absurd c (by omega) | exact c.elim | exact absurd c (by decide) | exact absurd (by assumption) c | exact absurd c (by assumption)) (fun _ => ?_)
  refine ST.lift (fun _ _ k => T_aload_n (v := .ref 183) d_Sc_multiply_8 rfl (Or.inr ⟨_, rfl⟩) k) ?_
  refine S_getfield d_Sc_multiply_9 fg_Sc_13 (w183 _) rfl ?_
  refine ST.lift (fun _ _ k => T_iload_n d_Sc_multiply_12 rfl k) ?_
  refine ST.lift (fun _ _ k => T_lconst (v := 0) d_Sc_multiply_13 (by decide) k) ?_
  refine S_lastore d_Sc_multiply_14 (by decide) a185 (vp_in_nI (by omega) (by omega)) ?_
  refine S_iincN (a := 17) (b := 1) (L' := [(3, .int (nI 18)), (0, .ref 183), (1, .ref f), (2, .ref g)]) d_Sc_multiply_15 (by decide) rfl rfl rfl ?_
  refine ST.lift (fun _ _ k => T_goto (tgt := 2) d_Sc_multiply_18 rfl k) ?_
  refine ST.lift (fun _ _ k => T_iload_n d_Sc_multiply_2 rfl k) ?_
  refine ST.lift (fun _ _ k => T_bipush (v := nI 20) d_Sc_multiply_3 (by decide) k) ?_
  refine S_icmp_geN d_Sc_multiply_5 rfl (by omega) (by omega) (fun c => by first | exact absurd c (by omega) | exact c.elim | exact absurd c (by decide) | exact absurd (by assumption) c | exact absurd c (by assumption)) (fun _ => ?_)
  refine ST.lift (fun _ _ k => T_aload_n (v := .ref 183) d_Sc_multiply_8 rfl (Or.inr ⟨_, rfl⟩) k) ?_
  refine S_getfield d_Sc_multiply_9 fg_Sc_13 (w183 _) rfl ?_
  refine ST.lift (fun _ _ k => T_iload_n d_Sc_multiply_12 rfl k) ?_
  refine ST.lift (fun _ _ k => T_lconst (v := 0) d_Sc_multiply_13 (by decide) k) ?_
  refine S_lastore d_Sc_multiply_14 (by decide) a185 (vp_in_nI (by omega) (by omega)) ?_
  refine S_iincN (a := 18) (b := 1) (L' := [(3, .int (nI 19)), (0, .ref 183), (1, .ref f), (2, .ref g)]) d_Sc_multiply_15 (by decide) rfl rfl rfl ?_
  refine ST.lift (fun _ _ k => T_goto (tgt := 2) d_Sc_multiply_18 rfl k) ?_
  refine ST.lift (fun _ _ k => T_iload_n d_Sc_multiply_2 rfl k) ?_
  refine ST.lift (fun _ _ k => T_bipush (v := nI 20) d_Sc_multiply_3 (by decide) k) ?_
  refine S_icmp_geN d_Sc_multiply_5 rfl (by omega) (by omega) (fun c => by first | exact absurd c (by omega) | exact c.elim | exact absurd c (by decide) | exact absurd (by assumption) c | exact absurd c (by assumption)) (fun _ => ?_)
  refine ST.lift (fun _ _ k => T_aload_n (v := .ref 183) d_Sc_multiply_8 rfl (Or.inr ⟨_, rfl⟩) k) ?_
  refine S_getfield d_Sc_multiply_9 fg_Sc_13 (w183 _) rfl ?_
  refine ST.lift (fun _ _ k => T_iload_n d_Sc_multiply_12 rfl k) ?_
  refine ST.lift (fun _ _ k => T_lconst (v := 0) d_Sc_multiply_13 (by decide) k) ?_
  refine S_lastore d_Sc_multiply_14 (by decide) a185 (vp_in_nI (by omega) (by omega)) ?_
  refine S_iincN (a := 19) (b := 1) (L' := [(3, .int (nI 20)), (0, .ref 183), (1, .ref f), (2, .ref g)]) d_Sc_multiply_15 (by decide) rfl rfl rfl ?_
  refine ST.lift (fun _ _ k => T_goto (tgt := 2) d_Sc_multiply_18 rfl k) ?_
  refine ST.lift (fun _ _ k => T_iload_n d_Sc_multiply_2 rfl k) ?_
  refine ST.lift (fun _ _ k => T_bipush (v := nI 20) d_Sc_multiply_3 (by decide) k) ?_
  refine S_icmp_geN d_Sc_multiply_5 rfl (by omega) (by omega) (fun _ => ?_) (fun c => by first | exact absurd c (by omega) | exact c.elim | exact absurd c (by decide) | exact absurd (by assumption) c | exact absurd c (by assumption))
  refine ST.lift (fun _ _ k => T_iconst (v := nI 0) d_Sc_multiply_21 (by decide) k) ?_
  refine ST.lift (fun _ _ k => T_istore_n (L' := [(3, .int (nI 0)), (0, .ref 183), (1, .ref f), (2, .ref g)]) d_Sc_multiply_22 (by decide) rfl k) ?_
  have lp4 : ∀ (n2 k1 : Nat), 10 - k1 = n2 → 0 ≤ k1 ∧ k1 ≤ 0 + 10 → ST G mi_Sc_multiply 23 [(3, .int (nI k1)), (0, .ref 183), (1, .ref f), (2, .ref g)] [] v 0 0 Q := by
    intro n2
    induction n2 using Nat.strongRecOn with
    | _ n2 ih3 =>
      intro k1 h5 h6
      refine ST.lift (fun _ _ k => T_iload_n d_Sc_multiply_23 rfl k) ?_
      refine ST.lift (fun _ _ k => T_bipush (v := nI 10) d_Sc_multiply_24 (by decide) k) ?_
      refine S_icmp_geN d_Sc_multiply_26 rfl (by omega) (by omega) (fun c7 => ?_) (fun c7 => ?_)
      · refine ST.lift (fun _ _ k => T_aload_n (v := .ref 183) d_Sc_multiply_71 rfl (Or.inr ⟨_, rfl⟩) k) ?_
        refine S_virtual (as := []) (rest := []) (b := 183) d_Sc_multiply_72 rfl (jw_Sc_carry.jo (by decide)) lm_Sc_48 ji_Sc_carry js_Sc_carry (w183 _) rfl rfl rfl (Nat.le_of_ble_eq_true rfl) (by decide) (by decide) (c_Sc_carry G v) (fun r v' hq => ?_)
        rw [hq.1, hq.2]
        clear hq r v'
        show ST G mi_Sc_multiply 75 [(3, .int (nI k1)), (0, .ref 183), (1, .ref f), (2, .ref g)] [] v 0 0 _
        refine ST.lift (fun _ _ k => T_aload_n (v := .ref 183) d_Sc_multiply_75 rfl (Or.inr ⟨_, rfl⟩) k) ?_
        refine S_virtual (as := []) (rest := []) (b := 183) d_Sc_multiply_76 rfl (jw_Sc_fold.jo (by decide)) lm_Sc_26 ji_Sc_fold js_Sc_fold (w183 _) rfl rfl rfl (Nat.le_of_ble_eq_true rfl) (by decide) (by decide) (c_Sc_fold G v) (fun r v' hq => ?_)
        rw [hq.1, hq.2]
        clear hq r v'
        show ST G mi_Sc_multiply 79 [(3, .int (nI k1)), (0, .ref 183), (1, .ref f), (2, .ref g)] [] v 0 0 _
        refine ST.lift (fun _ _ k => T_aload_n (v := .ref 183) d_Sc_multiply_79 rfl (Or.inr ⟨_, rfl⟩) k) ?_
        refine S_getfield d_Sc_multiply_80 fg_Sc_9 (w183 _) rfl ?_
        refine ST.lift (fun _ _ k => T_iconst (v := nI 0) d_Sc_multiply_83 (by decide) k) ?_
        refine ST.lift (fun _ _ k => T_aload_n (v := .ref f) d_Sc_multiply_84 rfl (Or.inr ⟨_, rfl⟩) k) ?_
        refine ST.lift (fun _ _ k => T_iconst (v := nI 0) d_Sc_multiply_85 (by decide) k) ?_
        refine ST.lift (fun _ _ k => T_bipush (v := nI 20) d_Sc_multiply_86 (by decide) k) ?_
        refine S_copyL d_Sc_multiply_88 lm_Sc_33 w_f a184 a_f (by omega) (by omega) (by omega) (by omega) (by omega) (by decide) (Nat.le_of_ble_eq_true rfl) ?_
        exact S_vret d_Sc_multiply_91 rfl (by decide) (by decide) hQ
      · refine ST.lift (fun _ _ k => T_iconst (v := nI 0) d_Sc_multiply_29 (by decide) k) ?_
        refine ST.lift (fun _ _ k => T_istore (L' := [(4, .int (nI 0)), (3, .int (nI k1)), (0, .ref 183), (1, .ref f), (2, .ref g)]) d_Sc_multiply_30 (by decide) rfl k) ?_
        refine ST.lift (fun _ _ k => T_iload d_Sc_multiply_32 rfl k) ?_
        refine ST.lift (fun _ _ k => T_bipush (v := nI 10) d_Sc_multiply_34 (by decide) k) ?_
        refine S_icmp_geN d_Sc_multiply_36 rfl (by omega) (by omega) (fun c => by first | exact absurd c (by omega) | exact c.elim | exact absurd c (by decide) | exact absurd (by assumption) c | exact absurd c (by assumption)) (fun _ => ?_)
        refine ST.lift (fun _ _ k => T_aload_n (v := .ref 183) d_Sc_multiply_39 rfl (Or.inr ⟨_, rfl⟩) k) ?_
        refine S_getfield d_Sc_multiply_40 fg_Sc_13 (w183 _) rfl ?_
        refine ST.lift (fun _ _ k => T_iload_n d_Sc_multiply_43 rfl k) ?_
        refine ST.lift (fun _ _ k => T_iload d_Sc_multiply_44 rfl k) ?_
        refine S_iaddN d_Sc_multiply_46 ?_
        refine ST.lift (fun _ _ k => T_dup2 d_Sc_multiply_47 rfl rfl k) ?_
        refine S_laload d_Sc_multiply_48 a185 (vp_in_nI (by omega) (by omega)) (fun z58 => ?_)
        refine ST.lift (fun _ _ k => T_aload_n (v := .ref f) d_Sc_multiply_49 rfl (Or.inr ⟨_, rfl⟩) k) ?_
        refine ST.lift (fun _ _ k => T_iload_n d_Sc_multiply_50 rfl k) ?_
        refine S_laload d_Sc_multiply_51 a_f (vp_in_nI (by omega) (by omega)) (fun z59 => ?_)
        refine ST.lift (fun _ _ k => T_aload_n (v := .ref g) d_Sc_multiply_52 rfl (Or.inr ⟨_, rfl⟩) k) ?_
        refine ST.lift (fun _ _ k => T_iload d_Sc_multiply_53 rfl k) ?_
        refine S_laload d_Sc_multiply_55 a_g (vp_in_nI (by omega) (by omega)) (fun z60 => ?_)
        refine ST.lift (fun _ _ k => T_lmul d_Sc_multiply_56 k) (S_anyl fun z61 => ?_)
        refine ST.lift (fun _ _ k => T_ladd d_Sc_multiply_57 k) (S_anyl fun z62 => ?_)
        refine S_lastore d_Sc_multiply_58 (by decide) a185 (vp_in_nI (by omega) (by omega)) ?_
        refine S_iincN (a := 0) (b := 1) (L' := [(4, .int (nI 1)), (3, .int (nI k1)), (0, .ref 183), (1, .ref f), (2, .ref g)]) d_Sc_multiply_59 (by decide) rfl rfl rfl ?_
        refine ST.lift (fun _ _ k => T_goto (tgt := 32) d_Sc_multiply_62 rfl k) ?_
        refine ST.lift (fun _ _ k => T_iload d_Sc_multiply_32 rfl k) ?_
        refine ST.lift (fun _ _ k => T_bipush (v := nI 10) d_Sc_multiply_34 (by decide) k) ?_
        refine S_icmp_geN d_Sc_multiply_36 rfl (by omega) (by omega) (fun c => by first | exact absurd c (by omega) | exact c.elim | exact absurd c (by decide) | exact absurd (by assumption) c | exact absurd c (by assumption)) (fun _ => ?_)
        refine ST.lift (fun _ _ k => T_aload_n (v := .ref 183) d_Sc_multiply_39 rfl (Or.inr ⟨_, rfl⟩) k) ?_
        refine S_getfield d_Sc_multiply_40 fg_Sc_13 (w183 _) rfl ?_
        refine ST.lift (fun _ _ k => T_iload_n d_Sc_multiply_43 rfl k) ?_
        refine ST.lift (fun _ _ k => T_iload d_Sc_multiply_44 rfl k) ?_
        refine S_iaddN d_Sc_multiply_46 ?_
        refine ST.lift (fun _ _ k => T_dup2 d_Sc_multiply_47 rfl rfl k) ?_
        refine S_laload d_Sc_multiply_48 a185 (vp_in_nI (by omega) (by omega)) (fun z63 => ?_)
        refine ST.lift (fun _ _ k => T_aload_n (v := .ref f) d_Sc_multiply_49 rfl (Or.inr ⟨_, rfl⟩) k) ?_
        refine ST.lift (fun _ _ k => T_iload_n d_Sc_multiply_50 rfl k) ?_
        refine S_laload d_Sc_multiply_51 a_f (vp_in_nI (by omega) (by omega)) (fun z64 => ?_)
        refine ST.lift (fun _ _ k => T_aload_n (v := .ref g) d_Sc_multiply_52 rfl (Or.inr ⟨_, rfl⟩) k) ?_
        refine ST.lift (fun _ _ k => T_iload d_Sc_multiply_53 rfl k) ?_
        refine S_laload d_Sc_multiply_55 a_g (vp_in_nI (by omega) (by omega)) (fun z65 => ?_)
        refine ST.lift (fun _ _ k => T_lmul d_Sc_multiply_56 k) (S_anyl fun z66 => ?_)
        refine ST.lift (fun _ _ k => T_ladd d_Sc_multiply_57 k) (S_anyl fun z67 => ?_)
        refine S_lastore d_Sc_multiply_58 (by decide) a185 (vp_in_nI (by omega) (by omega)) ?_
        refine S_iincN (a := 1) (b := 1) (L' := [(4, .int (nI 2)), (3, .int (nI k1)), (0, .ref 183), (1, .ref f), (2, .ref g)]) d_Sc_multiply_59 (by decide) rfl rfl rfl ?_
        refine ST.lift (fun _ _ k => T_goto (tgt := 32) d_Sc_multiply_62 rfl k) ?_
        refine ST.lift (fun _ _ k => T_iload d_Sc_multiply_32 rfl k) ?_
        refine ST.lift (fun _ _ k => T_bipush (v := nI 10) d_Sc_multiply_34 (by decide) k) ?_
        refine S_icmp_geN d_Sc_multiply_36 rfl (by omega) (by omega) (fun c => by first | exact absurd c (by omega) | exact c.elim | exact absurd c (by decide) | exact absurd (by assumption) c | exact absurd c (by assumption)) (fun _ => ?_)
        refine ST.lift (fun _ _ k => T_aload_n (v := .ref 183) d_Sc_multiply_39 rfl (Or.inr ⟨_, rfl⟩) k) ?_
        refine S_getfield d_Sc_multiply_40 fg_Sc_13 (w183 _) rfl ?_
        refine ST.lift (fun _ _ k => T_iload_n d_Sc_multiply_43 rfl k) ?_
        refine ST.lift (fun _ _ k => T_iload d_Sc_multiply_44 rfl k) ?_
        refine S_iaddN d_Sc_multiply_46 ?_
        refine ST.lift (fun _ _ k => T_dup2 d_Sc_multiply_47 rfl rfl k) ?_
        refine S_laload d_Sc_multiply_48 a185 (vp_in_nI (by omega) (by omega)) (fun z68 => ?_)
        refine ST.lift (fun _ _ k => T_aload_n (v := .ref f) d_Sc_multiply_49 rfl (Or.inr ⟨_, rfl⟩) k) ?_
        refine ST.lift (fun _ _ k => T_iload_n d_Sc_multiply_50 rfl k) ?_
        refine S_laload d_Sc_multiply_51 a_f (vp_in_nI (by omega) (by omega)) (fun z69 => ?_)
        refine ST.lift (fun _ _ k => T_aload_n (v := .ref g) d_Sc_multiply_52 rfl (Or.inr ⟨_, rfl⟩) k) ?_
        refine ST.lift (fun _ _ k => T_iload d_Sc_multiply_53 rfl k) ?_
        refine S_laload d_Sc_multiply_55 a_g (vp_in_nI (by omega) (by omega)) (fun z70 => ?_)
        refine ST.lift (fun _ _ k => T_lmul d_Sc_multiply_56 k) (S_anyl fun z71 => ?_)
        refine ST.lift (fun _ _ k => T_ladd d_Sc_multiply_57 k) (S_anyl fun z72 => ?_)
        refine S_lastore d_Sc_multiply_58 (by decide) a185 (vp_in_nI (by omega) (by omega)) ?_
        refine S_iincN (a := 2) (b := 1) (L' := [(4, .int (nI 3)), (3, .int (nI k1)), (0, .ref 183), (1, .ref f), (2, .ref g)]) d_Sc_multiply_59 (by decide) rfl rfl rfl ?_
        refine ST.lift (fun _ _ k => T_goto (tgt := 32) d_Sc_multiply_62 rfl k) ?_
        refine ST.lift (fun _ _ k => T_iload d_Sc_multiply_32 rfl k) ?_
        refine ST.lift (fun _ _ k => T_bipush (v := nI 10) d_Sc_multiply_34 (by decide) k) ?_
        refine S_icmp_geN d_Sc_multiply_36 rfl (by omega) (by omega) (fun c => by first | exact absurd c (by omega) | exact c.elim | exact absurd c (by decide) | exact absurd (by assumption) c | exact absurd c (by assumption)) (fun _ => ?_)
        refine ST.lift (fun _ _ k => T_aload_n (v := .ref 183) d_Sc_multiply_39 rfl (Or.inr ⟨_, rfl⟩) k) ?_
        refine S_getfield d_Sc_multiply_40 fg_Sc_13 (w183 _) rfl ?_
        refine ST.lift (fun _ _ k => T_iload_n d_Sc_multiply_43 rfl k) ?_
        refine ST.lift (fun _ _ k => T_iload d_Sc_multiply_44 rfl k) ?_
        refine S_iaddN d_Sc_multiply_46 ?_
        refine ST.lift (fun _ _ k => T_dup2 d_Sc_multiply_47 rfl rfl k) ?_
        refine S_laload d_Sc_multiply_48 a185 (vp_in_nI (by omega) (by omega)) (fun z73 => ?_)
        refine ST.lift (fun _ _ k => T_aload_n (v := .ref f) d_Sc_multiply_49 rfl (Or.inr ⟨_, rfl⟩) k) ?_
        refine ST.lift (fun _ _ k => T_iload_n d_Sc_multiply_50 rfl k) ?_
        refine S_laload d_Sc_multiply_51 a_f (vp_in_nI (by omega) (by omega)) (fun z74 => ?_)
        refine ST.lift (fun _ _ k => T_aload_n (v := .ref g) d_Sc_multiply_52 rfl (Or.inr ⟨_, rfl⟩) k) ?_
        refine ST.lift (fun _ _ k => T_iload d_Sc_multiply_53 rfl k) ?_
        refine S_laload d_Sc_multiply_55 a_g (vp_in_nI (by omega) (by omega)) (fun z75 => ?_)
        refine ST.lift (fun _ _ k => T_lmul d_Sc_multiply_56 k) (S_anyl fun z76 => ?_)
        refine ST.lift (fun _ _ k => T_ladd d_Sc_multiply_57 k) (S_anyl fun z77 => ?_)
        refine S_lastore d_Sc_multiply_58 (by decide) a185 (vp_in_nI (by omega) (by omega)) ?_
        refine S_iincN (a := 3) (b := 1) (L' := [(4, .int (nI 4)), (3, .int (nI k1)), (0, .ref 183), (1, .ref f), (2, .ref g)]) d_Sc_multiply_59 (by decide) rfl rfl rfl ?_
        refine ST.lift (fun _ _ k => T_goto (tgt := 32) d_Sc_multiply_62 rfl k) ?_
        refine ST.lift (fun _ _ k => T_iload d_Sc_multiply_32 rfl k) ?_
        refine ST.lift (fun _ _ k => T_bipush (v := nI 10) d_Sc_multiply_34 (by decide) k) ?_
        refine S_icmp_geN d_Sc_multiply_36 rfl (by omega) (by omega) (fun c => by first | exact absurd c (by omega) | exact c.elim | exact absurd c (by decide) | exact absurd (by assumption) c | exact absurd c (by assumption)) (fun _ => ?_)
        refine ST.lift (fun _ _ k => T_aload_n (v := .ref 183) d_Sc_multiply_39 rfl (Or.inr ⟨_, rfl⟩) k) ?_
        refine S_getfield d_Sc_multiply_40 fg_Sc_13 (w183 _) rfl ?_
        refine ST.lift (fun _ _ k => T_iload_n d_Sc_multiply_43 rfl k) ?_
        refine ST.lift (fun _ _ k => T_iload d_Sc_multiply_44 rfl k) ?_
        refine S_iaddN d_Sc_multiply_46 ?_
        refine ST.lift (fun _ _ k => T_dup2 d_Sc_multiply_47 rfl rfl k) ?_
        refine S_laload d_Sc_multiply_48 a185 (vp_in_nI (by omega) (by omega)) (fun z78 => ?_)
        refine ST.lift (fun _ _ k => T_aload_n (v := .ref f) d_Sc_multiply_49 rfl (Or.inr ⟨_, rfl⟩) k) ?_
        refine ST.lift (fun _ _ k => T_iload_n d_Sc_multiply_50 rfl k) ?_
        refine S_laload d_Sc_multiply_51 a_f (vp_in_nI (by omega) (by omega)) (fun z79 => ?_)
        refine ST.lift (fun _ _ k => T_aload_n (v := .ref g) d_Sc_multiply_52 rfl (Or.inr ⟨_, rfl⟩) k) ?_
        refine ST.lift (fun _ _ k => T_iload d_Sc_multiply_53 rfl k) ?_
        refine S_laload d_Sc_multiply_55 a_g (vp_in_nI (by omega) (by omega)) (fun z80 => ?_)
        refine ST.lift (fun _ _ k => T_lmul d_Sc_multiply_56 k) (S_anyl fun z81 => ?_)
        refine ST.lift (fun _ _ k => T_ladd d_Sc_multiply_57 k) (S_anyl fun z82 => ?_)
        refine S_lastore d_Sc_multiply_58 (by decide) a185 (vp_in_nI (by omega) (by omega)) ?_
        refine S_iincN (a := 4) (b := 1) (L' := [(4, .int (nI 5)), (3, .int (nI k1)), (0, .ref 183), (1, .ref f), (2, .ref g)]) d_Sc_multiply_59 (by decide) rfl rfl rfl ?_
        refine ST.lift (fun _ _ k => T_goto (tgt := 32) d_Sc_multiply_62 rfl k) ?_
        refine ST.lift (fun _ _ k => T_iload d_Sc_multiply_32 rfl k) ?_
        refine ST.lift (fun _ _ k => T_bipush (v := nI 10) d_Sc_multiply_34 (by decide) k) ?_
        refine S_icmp_geN d_Sc_multiply_36 rfl (by omega) (by omega) (fun c => by first | exact absurd c (by omega) | exact c.elim | exact absurd c (by decide) | exact absurd (by assumption) c | exact absurd c (by assumption)) (fun _ => ?_)
        refine ST.lift (fun _ _ k => T_aload_n (v := .ref 183) d_Sc_multiply_39 rfl (Or.inr ⟨_, rfl⟩) k) ?_
        refine S_getfield d_Sc_multiply_40 fg_Sc_13 (w183 _) rfl ?_
        refine ST.lift (fun _ _ k => T_iload_n d_Sc_multiply_43 rfl k) ?_
        refine ST.lift (fun _ _ k => T_iload d_Sc_multiply_44 rfl k) ?_
        refine S_iaddN d_Sc_multiply_46 ?_
        refine ST.lift (fun _ _ k => T_dup2 d_Sc_multiply_47 rfl rfl k) ?_
        refine S_laload d_Sc_multiply_48 a185 (vp_in_nI (by omega) (by omega)) (fun z83 => ?_)
        refine ST.lift (fun _ _ k => T_aload_n (v := .ref f) d_Sc_multiply_49 rfl (Or.inr ⟨_, rfl⟩) k) ?_
        refine ST.lift (fun _ _ k => T_iload_n d_Sc_multiply_50 rfl k) ?_
        refine S_laload d_Sc_multiply_51 a_f (vp_in_nI (by omega) (by omega)) (fun z84 => ?_)
        refine ST.lift (fun _ _ k => T_aload_n (v := .ref g) d_Sc_multiply_52 rfl (Or.inr ⟨_, rfl⟩) k) ?_
        refine ST.lift (fun _ _ k => T_iload d_Sc_multiply_53 rfl k) ?_
        refine S_laload d_Sc_multiply_55 a_g (vp_in_nI (by omega) (by omega)) (fun z85 => ?_)
        refine ST.lift (fun _ _ k => T_lmul d_Sc_multiply_56 k) (S_anyl fun z86 => ?_)
        refine ST.lift (fun _ _ k => T_ladd d_Sc_multiply_57 k) (S_anyl fun z87 => ?_)
        refine S_lastore d_Sc_multiply_58 (by decide) a185 (vp_in_nI (by omega) (by omega)) ?_
        refine S_iincN (a := 5) (b := 1) (L' := [(4, .int (nI 6)), (3, .int (nI k1)), (0, .ref 183), (1, .ref f), (2, .ref g)]) d_Sc_multiply_59 (by decide) rfl rfl rfl ?_
        refine ST.lift (fun _ _ k => T_goto (tgt := 32) d_Sc_multiply_62 rfl k) ?_
        refine ST.lift (fun _ _ k => T_iload d_Sc_multiply_32 rfl k) ?_
        refine ST.lift (fun _ _ k => T_bipush (v := nI 10) d_Sc_multiply_34 (by decide) k) ?_
        refine S_icmp_geN d_Sc_multiply_36 rfl (by omega) (by omega) (fun c => by first | exact absurd c (by omega) | exact c.elim | exact absurd c (by decide) | exact absurd (by assumption) c | exact absurd c (by assumption)) (fun _ => ?_)
        refine ST.lift (fun _ _ k => T_aload_n (v := .ref 183) d_Sc_multiply_39 rfl (Or.inr ⟨_, rfl⟩) k) ?_
        refine S_getfield d_Sc_multiply_40 fg_Sc_13 (w183 _) rfl ?_
        refine ST.lift (fun _ _ k => T_iload_n d_Sc_multiply_43 rfl k) ?_
        refine ST.lift (fun _ _ k => T_iload d_Sc_multiply_44 rfl k) ?_
        refine S_iaddN d_Sc_multiply_46 ?_
        refine ST.lift (fun _ _ k => T_dup2 d_Sc_multiply_47 rfl rfl k) ?_
        refine S_laload d_Sc_multiply_48 a185 (vp_in_nI (by omega) (by omega)) (fun z88 => ?_)
        refine ST.lift (fun _ _ k => T_aload_n (v := .ref f) d_Sc_multiply_49 rfl (Or.inr ⟨_, rfl⟩) k) ?_
        refine ST.lift (fun _ _ k => T_iload_n d_Sc_multiply_50 rfl k) ?_
        refine S_laload d_Sc_multiply_51 a_f (vp_in_nI (by omega) (by omega)) (fun z89 => ?_)
        refine ST.lift (fun _ _ k => T_aload_n (v := .ref g) d_Sc_multiply_52 rfl (Or.inr ⟨_, rfl⟩) k) ?_
        refine ST.lift (fun _ _ k => T_iload d_Sc_multiply_53 rfl k) ?_
        refine S_laload d_Sc_multiply_55 a_g (vp_in_nI (by omega) (by omega)) (fun z90 => ?_)
        refine ST.lift (fun _ _ k => T_lmul d_Sc_multiply_56 k) (S_anyl fun z91 => ?_)
        refine ST.lift (fun _ _ k => T_ladd d_Sc_multiply_57 k) (S_anyl fun z92 => ?_)
        refine S_lastore d_Sc_multiply_58 (by decide) a185 (vp_in_nI (by omega) (by omega)) ?_
        refine S_iincN (a := 6) (b := 1) (L' := [(4, .int (nI 7)), (3, .int (nI k1)), (0, .ref 183), (1, .ref f), (2, .ref g)]) d_Sc_multiply_59 (by decide) rfl rfl rfl ?_
        refine ST.lift (fun _ _ k => T_goto (tgt := 32) d_Sc_multiply_62 rfl k) ?_
        refine ST.lift (fun _ _ k => T_iload d_Sc_multiply_32 rfl k) ?_
        refine ST.lift (fun _ _ k => T_bipush (v := nI 10) d_Sc_multiply_34 (by decide) k) ?_
        refine S_icmp_geN d_Sc_multiply_36 rfl (by omega) (by omega) (fun c => by first | exact absurd c (by omega) | exact c.elim | exact absurd c (by decide) | exact absurd (by assumption) c | exact absurd c (by assumption)) (fun _ => ?_)
        refine ST.lift (fun _ _ k => T_aload_n (v := .ref 183) d_Sc_multiply_39 rfl (Or.inr ⟨_, rfl⟩) k) ?_
        refine S_getfield d_Sc_multiply_40 fg_Sc_13 (w183 _) rfl ?_
        refine ST.lift (fun _ _ k => T_iload_n d_Sc_multiply_43 rfl k) ?_
        refine ST.lift (fun _ _ k => T_iload d_Sc_multiply_44 rfl k) ?_
        refine S_iaddN d_Sc_multiply_46 ?_
        refine ST.lift (fun _ _ k => T_dup2 d_Sc_multiply_47 rfl rfl k) ?_
        refine S_laload d_Sc_multiply_48 a185 (vp_in_nI (by omega) (by omega)) (fun z93 => ?_)
        refine ST.lift (fun _ _ k => T_aload_n (v := .ref f) d_Sc_multiply_49 rfl (Or.inr ⟨_, rfl⟩) k) ?_
        refine ST.lift (fun _ _ k => T_iload_n d_Sc_multiply_50 rfl k) ?_
        refine S_laload d_Sc_multiply_51 a_f (vp_in_nI (by omega) (by omega)) (fun z94 => ?_)
        refine ST.lift (fun _ _ k => T_aload_n (v := .ref g) d_Sc_multiply_52 rfl (Or.inr ⟨_, rfl⟩) k) ?_
        refine ST.lift (fun _ _ k => T_iload d_Sc_multiply_53 rfl k) ?_
        refine S_laload d_Sc_multiply_55 a_g (vp_in_nI (by omega) (by omega)) (fun z95 => ?_)
        refine ST.lift (fun _ _ k => T_lmul d_Sc_multiply_56 k) (S_anyl fun z96 => ?_)
        refine ST.lift (fun _ _ k => T_ladd d_Sc_multiply_57 k) (S_anyl fun z97 => ?_)
        refine S_lastore d_Sc_multiply_58 (by decide) a185 (vp_in_nI (by omega) (by omega)) ?_
        refine S_iincN (a := 7) (b := 1) (L' := [(4, .int (nI 8)), (3, .int (nI k1)), (0, .ref 183), (1, .ref f), (2, .ref g)]) d_Sc_multiply_59 (by decide) rfl rfl rfl ?_
        refine ST.lift (fun _ _ k => T_goto (tgt := 32) d_Sc_multiply_62 rfl k) ?_
        refine ST.lift (fun _ _ k => T_iload d_Sc_multiply_32 rfl k) ?_
        refine ST.lift (fun _ _ k => T_bipush (v := nI 10) d_Sc_multiply_34 (by decide) k) ?_
        refine S_icmp_geN d_Sc_multiply_36 rfl (by omega) (by omega) (fun c => by first | exact absurd c (by omega) | exact c.elim | exact absurd c (by decide) | exact absurd (by assumption) c | exact absurd c (by assumption)) (fun _ => ?_)
        refine ST.lift (fun _ _ k => T_aload_n (v := .ref 183) d_Sc_multiply_39 rfl (Or.inr ⟨_, rfl⟩) k) ?_
        refine S_getfield d_Sc_multiply_40 fg_Sc_13 (w183 _) rfl ?_
        refine ST.lift (fun _ _ k => T_iload_n d_Sc_multiply_43 rfl k) ?_
        refine ST.lift (fun _ _ k => T_iload d_Sc_multiply_44 rfl k) ?_
        refine S_iaddN d_Sc_multiply_46 ?_
        refine ST.lift (fun _ _ k => T_dup2 d_Sc_multiply_47 rfl rfl k) ?_
        refine S_laload d_Sc_multiply_48 a185 (vp_in_nI (by omega) (by omega)) (fun z98 => ?_)
        refine ST.lift (fun _ _ k => T_aload_n (v := .ref f) d_Sc_multiply_49 rfl (Or.inr ⟨_, rfl⟩) k) ?_
        refine ST.lift (fun _ _ k => T_iload_n d_Sc_multiply_50 rfl k) ?_
        refine S_laload d_Sc_multiply_51 a_f (vp_in_nI (by omega) (by omega)) (fun z99 => ?_)
        refine ST.lift (fun _ _ k => T_aload_n (v := .ref g) d_Sc_multiply_52 rfl (Or.inr ⟨_, rfl⟩) k) ?_
        refine ST.lift (fun _ _ k => T_iload d_Sc_multiply_53 rfl k) ?_
        refine S_laload d_Sc_multiply_55 a_g (vp_in_nI (by omega) (by omega)) (fun z100 => ?_)
        refine ST.lift (fun _ _ k => T_lmul d_Sc_multiply_56 k) (S_anyl fun z101 => ?_)
        refine ST.lift (fun _ _ k => T_ladd d_Sc_multiply_57 k) (S_anyl fun z102 => ?_)
        refine S_lastore d_Sc_multiply_58 (by decide) a185 (vp_in_nI (by omega) (by omega)) ?_
        refine S_iincN (a := 8) (b := 1) (L' := [(4, .int (nI 9)), (3, .int (nI k1)), (0, .ref 183), (1, .ref f), (2, .ref g)]) d_Sc_multiply_59 (by decide) rfl rfl rfl ?_
        refine ST.lift (fun _ _ k => T_goto (tgt := 32) d_Sc_multiply_62 rfl k) ?_
        refine ST.lift (fun _ _ k => T_iload d_Sc_multiply_32 rfl k) ?_
        refine ST.lift (fun _ _ k => T_bipush (v := nI 10) d_Sc_multiply_34 (by decide) k) ?_
        refine S_icmp_geN d_Sc_multiply_36 rfl (by omega) (by omega) (fun c => by first | exact absurd c (by omega) | exact c.elim | exact absurd c (by decide) | exact absurd (by assumption) c | exact absurd c (by assumption)) (fun _ => ?_)
        refine ST.lift (fun _ _ k => T_aload_n (v := .ref 183) d_Sc_multiply_39 rfl (Or.inr ⟨_, rfl⟩) k) ?_
        refine S_getfield d_Sc_multiply_40 fg_Sc_13 (w183 _) rfl ?_
        refine ST.lift (fun _ _ k => T_iload_n d_Sc_multiply_43 rfl k) ?_
        refine ST.lift (fun _ _ k => T_iload d_Sc_multiply_44 rfl k) ?_
        refine S_iaddN d_Sc_multiply_46 ?_
        refine ST.lift (fun _ _ k => T_dup2 d_Sc_multiply_47 rfl rfl k) ?_
        refine S_laload d_Sc_multiply_48 a185 (vp_in_nI (by omega) (by omega)) (fun z103 => ?_)
        refine ST.lift (fun _ _ k => T_aload_n (v := .ref f) d_Sc_multiply_49 rfl (Or.inr ⟨_, rfl⟩) k) ?_
        refine ST.lift (fun _ _ k => T_iload_n d_Sc_multiply_50 rfl k) ?_
        refine S_laload d_Sc_multiply_51 a_f (vp_in_nI (by omega) (by omega)) (fun z104 => ?_)
        refine ST.lift (fun _ _ k => T_aload_n (v := .ref g) d_Sc_multiply_52 rfl (Or.inr ⟨_, rfl⟩) k) ?_
        refine ST.lift (fun _ _ k => T_iload d_Sc_multiply_53 rfl k) ?_
        refine S_laload d_Sc_multiply_55 a_g (vp_in_nI (by omega) (by omega)) (fun z105 => ?_)
        refine ST.lift (fun _ _ k => T_lmul d_Sc_multiply_56 k) (S_anyl fun z106 => ?_)
        refine ST.lift (fun _ _ k => T_ladd d_Sc_multiply_57 k) (S_anyl fun z107 => ?_)
        refine S_lastore d_Sc_multiply_58 (by decide) a185 (vp_in_nI (by omega) (by omega)) ?_
        refine S_iincN (a := 9) (b := 1) (L' := [(4, .int (nI 10)), (3, .int (nI k1)), (0, .ref 183), (1, .ref f), (2, .ref g)]) d_Sc_multiply_59 (by decide) rfl rfl rfl ?_
        refine ST.lift (fun _ _ k => T_goto (tgt := 32) d_Sc_multiply_62 rfl k) ?_
        refine ST.lift (fun _ _ k => T_iload d_Sc_multiply_32 rfl k) ?_
        refine ST.lift (fun _ _ k => T_bipush (v := nI 10) d_Sc_multiply_34 (by decide) k) ?_
        refine S_icmp_geN d_Sc_multiply_36 rfl (by omega) (by omega) (fun _ => ?_) (fun c => by first | exact absurd c (by omega) | exact c.elim | exact absurd c (by decide) | exact absurd (by assumption) c | exact absurd c (by assumption))
        refine S_iincN (a := k1) (b := 1) (L' := [(3, .int (nI (k1 + 1))), (4, .int (nI 10)), (0, .ref 183), (1, .ref f), (2, .ref g)]) d_Sc_multiply_65 (by decide) rfl rfl rfl ?_
        refine ST.lift (fun _ _ k => T_goto (tgt := 23) d_Sc_multiply_68 rfl k) ?_
        refine S_pick [0, 2, 3, 4] rfl ?_
        exact ih3 (10 - (k1 + 1)) (by omega) (k1 + 1)  rfl (by omega)
  exact lp4 _ 0  rfl (by omega)
set_option maxRecDepth 100000 in
set_option maxHeartbeats 4000000 in
theorem c_Sc_reduce (G : GX) (v : Nat → Int32) (src m : Nat) (w_src : K0 ≤ src) (a_src : aB src m) (l_src : m ≤ 2000) (n : Nat) (b_n : n ≤ 64 ∧ n ≤ m) (to mt : Nat) (w_to : K0 ≤ to) (a_to : aB to mt) (l_to : mt ≤ 2000) (h32 : 32 ≤ mt) : CS G mi_Sc_reduce [.ref 183, .ref src, .int (nI n), .ref to] v (fun r v' => r = none ∧ v' = v) := by
  refine CS.of (by decide) (Nat.le_of_ble_eq_true rfl) ?_
  generalize hQe : (fun (r : Option Value) (v' : Nat → Int32) => r = none ∧ v' = v) = Q
  have hQ : Q none v := by rw [← hQe]; exact ⟨rfl, rfl⟩
  clear hQe
  show ST G mi_Sc_reduce 0 [(0, .ref 183), (1, .ref src), (2, .int (nI n)), (3, .ref to)] [] v 0 0 Q
  refine ST.lift (fun _ _ k => T_aload_n (v := .ref 183) d_Sc_reduce_0 rfl (Or.inr ⟨_, rfl⟩) k) ?_
  refine ST.lift (fun _ _ k => T_aload_n (v := .ref src) d_Sc_reduce_1 rfl (Or.inr ⟨_, rfl⟩) k) ?_
  refine ST.lift (fun _ _ k => T_iload_n d_Sc_reduce_2 rfl k) ?_
  refine S_virtual (as := [.ref src, .int (nI n)]) (rest := []) (b := 183) d_Sc_reduce_3 rfl (jw_Sc_load.jo (by decide)) lm_Sc_22 ji_Sc_load js_Sc_load (w183 _) rfl rfl rfl (Nat.le_of_ble_eq_true rfl) (by decide) (by decide) (c_Sc_load G v src m w_src a_src (by omega) n (by omega)) (fun r v' hq => ?_)
  rw [hq.1, hq.2]
  clear hq r v'
  show ST G mi_Sc_reduce 6 [(0, .ref 183), (1, .ref src), (2, .int (nI n)), (3, .ref to)] [] v 0 0 _
  refine ST.lift (fun _ _ k => T_aload_n (v := .ref 183) d_Sc_reduce_6 rfl (Or.inr ⟨_, rfl⟩) k) ?_
  refine S_virtual (as := []) (rest := []) (b := 183) d_Sc_reduce_7 rfl (jw_Sc_fold.jo (by decide)) lm_Sc_26 ji_Sc_fold js_Sc_fold (w183 _) rfl rfl rfl (Nat.le_of_ble_eq_true rfl) (by decide) (by decide) (c_Sc_fold G v) (fun r v' hq => ?_)
  rw [hq.1, hq.2]
  clear hq r v'
  show ST G mi_Sc_reduce 10 [(0, .ref 183), (1, .ref src), (2, .int (nI n)), (3, .ref to)] [] v 0 0 _
  refine ST.lift (fun _ _ k => T_aload_n (v := .ref 183) d_Sc_reduce_10 rfl (Or.inr ⟨_, rfl⟩) k) ?_
  refine ST.lift (fun _ _ k => T_aload_n (v := .ref to) d_Sc_reduce_11 rfl (Or.inr ⟨_, rfl⟩) k) ?_
  refine S_virtual (as := [.ref to]) (rest := []) (b := 183) d_Sc_reduce_12 rfl (jw_Sc_save.jo (by decide)) lm_Sc_29 ji_Sc_save js_Sc_save (w183 _) rfl rfl rfl (Nat.le_of_ble_eq_true rfl) (by decide) (by decide) (c_Sc_save G v to mt w_to a_to (by omega) (by omega)) (fun r v' hq => ?_)
  rw [hq.1, hq.2]
  clear hq r v'
  show ST G mi_Sc_reduce 15 [(0, .ref 183), (1, .ref src), (2, .int (nI n)), (3, .ref to)] [] v 0 0 _
  exact S_vret d_Sc_reduce_15 rfl (by decide) (by decide) hQ
set_option maxRecDepth 100000 in
set_option maxHeartbeats 4000000 in
theorem c_Sc_invert (G : GX) (v : Nat → Int32) (a m : Nat) (w_a : K0 ≤ a) (a_a : aB a m) (l_a : m ≤ 2000) (to mt : Nat) (w_to : K0 ≤ to) (a_to : aB to mt) (l_to : mt ≤ 2000) (h32 : 32 ≤ m ∧ 32 ≤ mt) : CS G mi_Sc_invert [.ref 183, .ref a, .ref to] v (fun r v' => r = none ∧ v' = v) := by
  refine CS.of (by decide) (Nat.le_of_ble_eq_true rfl) ?_
  generalize hQe : (fun (r : Option Value) (v' : Nat → Int32) => r = none ∧ v' = v) = Q
  have hQ : Q none v := by rw [← hQe]; exact ⟨rfl, rfl⟩
  clear hQe
  show ST G mi_Sc_invert 0 [(0, .ref 183), (1, .ref a), (2, .ref to)] [] v 0 0 Q
  refine ST.lift (fun _ _ k => T_aload_n (v := .ref 183) d_Sc_invert_0 rfl (Or.inr ⟨_, rfl⟩) k) ?_
  refine ST.lift (fun _ _ k => T_aload_n (v := .ref a) d_Sc_invert_1 rfl (Or.inr ⟨_, rfl⟩) k) ?_
  refine ST.lift (fun _ _ k => T_bipush (v := nI 32) d_Sc_invert_2 (by decide) k) ?_
  refine S_virtual (as := [.ref a, .int (nI 32)]) (rest := []) (b := 183) d_Sc_invert_4 rfl (jw_Sc_load.jo (by decide)) lm_Sc_22 ji_Sc_load js_Sc_load (w183 _) rfl rfl rfl (Nat.le_of_ble_eq_true rfl) (by decide) (by decide) (c_Sc_load G v a m w_a a_a (by omega) 32 (by omega)) (fun r v' hq => ?_)
  rw [hq.1, hq.2]
  clear hq r v'
  show ST G mi_Sc_invert 7 [(0, .ref 183), (1, .ref a), (2, .ref to)] [] v 0 0 _
  refine ST.lift (fun _ _ k => T_aload_n (v := .ref 183) d_Sc_invert_7 rfl (Or.inr ⟨_, rfl⟩) k) ?_
  refine S_virtual (as := []) (rest := []) (b := 183) d_Sc_invert_8 rfl (jw_Sc_fold.jo (by decide)) lm_Sc_26 ji_Sc_fold js_Sc_fold (w183 _) rfl rfl rfl (Nat.le_of_ble_eq_true rfl) (by decide) (by decide) (c_Sc_fold G v) (fun r v' hq => ?_)
  rw [hq.1, hq.2]
  clear hq r v'
  show ST G mi_Sc_invert 11 [(0, .ref 183), (1, .ref a), (2, .ref to)] [] v 0 0 _
  refine ST.lift (fun _ _ k => T_aload_n (v := .ref 183) d_Sc_invert_11 rfl (Or.inr ⟨_, rfl⟩) k) ?_
  refine S_getfield d_Sc_invert_12 fg_Sc_9 (w183 _) rfl ?_
  refine ST.lift (fun _ _ k => T_iconst (v := nI 0) d_Sc_invert_15 (by decide) k) ?_
  refine ST.lift (fun _ _ k => T_aload_n (v := .ref 183) d_Sc_invert_16 rfl (Or.inr ⟨_, rfl⟩) k) ?_
  refine S_getfield d_Sc_invert_17 fg_Sc_16 (w183 _) rfl ?_
  refine ST.lift (fun _ _ k => T_iconst (v := nI 0) d_Sc_invert_20 (by decide) k) ?_
  refine ST.lift (fun _ _ k => T_bipush (v := nI 20) d_Sc_invert_21 (by decide) k) ?_
  refine S_copyL d_Sc_invert_23 lm_Sc_33 (by decide) a184 a186 (by omega) (by omega) (by omega) (by omega) (by omega) (by decide) (Nat.le_of_ble_eq_true rfl) ?_
  refine ST.lift (fun _ _ k => T_iconst (v := nI 0) d_Sc_invert_26 (by decide) k) ?_
  refine ST.lift (fun _ _ k => T_istore_n (L' := [(3, .int (nI 0)), (0, .ref 183), (1, .ref a), (2, .ref to)]) d_Sc_invert_27 (by decide) rfl k) ?_
  have lp4 : ∀ (n2 k1 : Nat), 20 - k1 = n2 → 0 ≤ k1 ∧ k1 ≤ 0 + 20 → ST G mi_Sc_invert 28 [(3, .int (nI k1)), (0, .ref 183), (1, .ref a), (2, .ref to)] [] v 0 0 Q := by
    intro n2
    induction n2 using Nat.strongRecOn with
    | _ n2 ih3 =>
      intro k1 h5 h6
      refine ST.lift (fun _ _ k => T_iload_n d_Sc_invert_28 rfl k) ?_
      refine ST.lift (fun _ _ k => T_bipush (v := nI 20) d_Sc_invert_29 (by decide) k) ?_
      refine S_icmp_geN d_Sc_invert_31 rfl (by omega) (by omega) (fun c7 => ?_) (fun c7 => ?_)
      · refine ST.lift (fun _ _ k => T_sipush (v := nI 252) d_Sc_invert_55 (by decide) k) ?_
        refine ST.lift (fun _ _ k => T_istore_n (L' := [(3, .int (nI 252)), (0, .ref 183), (1, .ref a), (2, .ref to)]) d_Sc_invert_58 (by decide) rfl k) ?_
        have lp14 : ∀ (n12 k11 : Nat), k11 = n12 → k11 ≤ (252 + 1) → ST G mi_Sc_invert 59 [(3, .int (nI k11 - 1)), (0, .ref 183), (1, .ref a), (2, .ref to)] [] v 0 0 Q := by
          intro n12
          induction n12 using Nat.strongRecOn with
          | _ n12 ih13 =>
            intro k11 h15 h16
            refine ST.lift (fun _ _ k => T_iload_n d_Sc_invert_59 rfl k) ?_
            refine S_if_ltD d_Sc_invert_60 rfl (by omega) (fun h18 => ?_) (fun b17 h18 => ?_)
            · refine ST.lift (fun _ _ k => T_aload_n (v := .ref 183) d_Sc_invert_135 rfl (Or.inr ⟨_, rfl⟩) k) ?_
              refine S_getfield d_Sc_invert_136 fg_Sc_19 (w183 _) rfl ?_
              refine ST.lift (fun _ _ k => T_iconst (v := nI 0) d_Sc_invert_139 (by decide) k) ?_
              refine ST.lift (fun _ _ k => T_aload_n (v := .ref 183) d_Sc_invert_140 rfl (Or.inr ⟨_, rfl⟩) k) ?_
              refine S_getfield d_Sc_invert_141 fg_Sc_9 (w183 _) rfl ?_
              refine ST.lift (fun _ _ k => T_iconst (v := nI 0) d_Sc_invert_144 (by decide) k) ?_
              refine ST.lift (fun _ _ k => T_bipush (v := nI 20) d_Sc_invert_145 (by decide) k) ?_
              refine S_copyL d_Sc_invert_147 lm_Sc_33 (by decide) a187 a184 (by omega) (by omega) (by omega) (by omega) (by omega) (by decide) (Nat.le_of_ble_eq_true rfl) ?_
              refine ST.lift (fun _ _ k => T_aload_n (v := .ref 183) d_Sc_invert_150 rfl (Or.inr ⟨_, rfl⟩) k) ?_
              refine ST.lift (fun _ _ k => T_aload_n (v := .ref to) d_Sc_invert_151 rfl (Or.inr ⟨_, rfl⟩) k) ?_
              refine S_virtual (as := [.ref to]) (rest := []) (b := 183) d_Sc_invert_152 rfl (jw_Sc_save.jo (by decide)) lm_Sc_29 ji_Sc_save js_Sc_save (w183 _) rfl rfl rfl (Nat.le_of_ble_eq_true rfl) (by decide) (by decide) (c_Sc_save G v to mt w_to a_to (by omega) (by omega)) (fun r v' hq => ?_)
              rw [hq.1, hq.2]
              clear hq r v'
              show ST G mi_Sc_invert 155 [(3, .int (nI k11 - 1)), (0, .ref 183), (1, .ref a), (2, .ref to)] [] v 0 0 _
              exact S_vret d_Sc_invert_155 rfl (by decide) (by decide) hQ
            · subst h18
              refine S_loc (L' := [(3, .int (nI b17)), (0, .ref 183), (1, .ref a), (2, .ref to)]) (by rw [nI_pred]) ?_
              refine ST.lift (fun _ _ k => T_aload_n (v := .ref 183) d_Sc_invert_63 rfl (Or.inr ⟨_, rfl⟩) k) ?_
              refine ST.lift (fun _ _ k => T_aload_n (v := .ref 183) d_Sc_invert_64 rfl (Or.inr ⟨_, rfl⟩) k) ?_
              refine S_getfield d_Sc_invert_65 fg_Sc_19 (w183 _) rfl ?_
              refine ST.lift (fun _ _ k => T_aload_n (v := .ref 183) d_Sc_invert_68 rfl (Or.inr ⟨_, rfl⟩) k) ?_
              refine S_getfield d_Sc_invert_69 fg_Sc_19 (w183 _) rfl ?_
              refine S_virtual (as := [.ref 187, .ref 187]) (rest := []) (b := 183) d_Sc_invert_72 rfl (jw_Sc_multiply.jo (by decide)) lm_Sc_39 ji_Sc_multiply js_Sc_multiply (w183 _) rfl rfl rfl (Nat.le_of_ble_eq_true rfl) (by decide) (by decide) (c_Sc_multiply G v 187 (by decide) a187 187 a187) (fun r v' hq => ?_)
              rw [hq.1, hq.2]
              clear hq r v'
              show ST G mi_Sc_invert 75 [(3, .int (nI b17)), (0, .ref 183), (1, .ref a), (2, .ref to)] [] v 0 0 _
              refine ST.lift (fun _ _ k => T_iload_n d_Sc_invert_75 rfl k) ?_
              refine ST.lift (fun _ _ k => T_bipush (v := nI 28) d_Sc_invert_76 (by decide) k) ?_
              have J101_24 : ∀ (z23 : Int64), ST G mi_Sc_invert 101 [(3, .int (nI b17)), (0, .ref 183), (1, .ref a), (2, .ref to)] [.long z23] v 0 0 Q := by
                intro z23
                refine ST.lift (fun _ _ k => T_lstore (L' := [(4, .long z23), (3, .int (nI b17)), (0, .ref 183), (1, .ref a), (2, .ref to)]) d_Sc_invert_101 (by decide) rfl k) ?_
                refine ST.lift (fun _ _ k => T_lload d_Sc_invert_103 rfl k) ?_
                refine ST.lift (fun _ _ k => T_iload_n d_Sc_invert_105 rfl k) ?_
                refine ST.lift (fun _ _ k => T_bipush (v := nI 28) d_Sc_invert_106 (by decide) k) ?_
                refine S_iremN d_Sc_invert_108 (by omega) (by omega) (by omega) ?_
                refine ST.lift (fun _ _ k => T_lshr d_Sc_invert_109 k) (S_anyl fun z25 => ?_)
                refine ST.lift (fun _ _ k => T_lconst (v := 1) d_Sc_invert_110 (by decide) k) ?_
                refine ST.lift (fun _ _ k => T_land d_Sc_invert_111 k) (S_anyl fun z26 => ?_)
                refine ST.lift (fun _ _ k => T_lconst (v := 1) d_Sc_invert_112 (by decide) k) ?_
                refine ST.lift (fun _ _ k => T_lcmp d_Sc_invert_113 k) (S_anyi fun z27 => ?_)
                have J129_29 : ST G mi_Sc_invert 129 [(4, .long z23), (3, .int (nI b17)), (0, .ref 183), (1, .ref a), (2, .ref to)] [] v 0 0 Q := by
                  refine S_iincD (a := b17) (L' := [(3, .int (nI b17 - 1)), (4, .long z23), (0, .ref 183), (1, .ref a), (2, .ref to)]) d_Sc_invert_129 (by decide) rfl rfl ?_
                  refine ST.lift (fun _ _ k => T_goto (tgt := 59) d_Sc_invert_132 rfl k) ?_
                  refine S_pick [0, 2, 3, 4] rfl ?_
                  exact ih13 b17 (by omega) b17  rfl (by omega)
                refine S_if_ne d_Sc_invert_114 rfl (fun c28 => ?_) (fun c28 => ?_)
                · exact J129_29 
                · refine ST.lift (fun _ _ k => T_aload_n (v := .ref 183) d_Sc_invert_117 rfl (Or.inr ⟨_, rfl⟩) k) ?_
                  refine ST.lift (fun _ _ k => T_aload_n (v := .ref 183) d_Sc_invert_118 rfl (Or.inr ⟨_, rfl⟩) k) ?_
                  refine S_getfield d_Sc_invert_119 fg_Sc_19 (w183 _) rfl ?_
                  refine ST.lift (fun _ _ k => T_aload_n (v := .ref 183) d_Sc_invert_122 rfl (Or.inr ⟨_, rfl⟩) k) ?_
                  refine S_getfield d_Sc_invert_123 fg_Sc_16 (w183 _) rfl ?_
                  refine S_virtual (as := [.ref 187, .ref 186]) (rest := []) (b := 183) d_Sc_invert_126 rfl (jw_Sc_multiply.jo (by decide)) lm_Sc_39 ji_Sc_multiply js_Sc_multiply (w183 _) rfl rfl rfl (Nat.le_of_ble_eq_true rfl) (by decide) (by decide) (c_Sc_multiply G v 187 (by decide) a187 186 a186) (fun r v' hq => ?_)
                  rw [hq.1, hq.2]
                  clear hq r v'
                  show ST G mi_Sc_invert 129 [(4, .long z23), (3, .int (nI b17)), (0, .ref 183), (1, .ref a), (2, .ref to)] [] v 0 0 _
                  exact J129_29 
              refine S_icmp_geN d_Sc_invert_78 rfl (by omega) (by omega) (fun c19 => ?_) (fun c19 => ?_)
              · refine ST.lift (fun _ _ k => T_getstatic (q := ("PasswordGate$Scalars", "Q", "[J", .ref 10)) d_Sc_invert_93 (List.mem_of_getElem? (i := 10) rfl) gs_Sc_43 (show 10 < K0 by decide) k) ?_
                refine ST.lift (fun _ _ k => T_iload_n d_Sc_invert_96 rfl k) ?_
                refine ST.lift (fun _ _ k => T_bipush (v := nI 28) d_Sc_invert_97 (by decide) k) ?_
                refine S_idivN d_Sc_invert_99 (by omega) (by omega) (by omega) ?_
                refine S_laload d_Sc_invert_100 a10 (vp_in_nI (by omega) (by omega)) (fun z30 => ?_)
                exact J101_24 z30
              · refine ST.lift (fun _ _ k => T_getstatic (q := ("PasswordGate$Scalars", "Q", "[J", .ref 10)) d_Sc_invert_81 (List.mem_of_getElem? (i := 10) rfl) gs_Sc_43 (show 10 < K0 by decide) k) ?_
                refine ST.lift (fun _ _ k => T_iconst (v := nI 0) d_Sc_invert_84 (by decide) k) ?_
                refine S_laload d_Sc_invert_85 a10 (vp_in_nI (by omega) (by omega)) (fun z31 => ?_)
                refine ST.lift (fun _ _ k => T_ldc2 d_Sc_invert_86 kJ_Sc_46 k) ?_
                refine ST.lift (fun _ _ k => T_lsub d_Sc_invert_89 k) (S_anyl fun z32 => ?_)
                refine ST.lift (fun _ _ k => T_goto (tgt := 101) d_Sc_invert_90 rfl k) ?_
                exact J101_24 z32
        have e_lp14 : nI 252 = nI (252 + 1) - 1 := (nI_pred _).symm
        refine S_loc (L' := [(3, .int (nI (252 + 1) - 1)), (0, .ref 183), (1, .ref a), (2, .ref to)]) (by rw [← e_lp14]) ?_
        exact lp14 _ (252 + 1)  rfl (by omega)
      · refine ST.lift (fun _ _ k => T_aload_n (v := .ref 183) d_Sc_invert_34 rfl (Or.inr ⟨_, rfl⟩) k) ?_
        refine S_getfield d_Sc_invert_35 fg_Sc_19 (w183 _) rfl ?_
        refine ST.lift (fun _ _ k => T_iload_n d_Sc_invert_38 rfl k) ?_
        refine ST.lift (fun _ _ k => T_iload_n d_Sc_invert_39 rfl k) ?_
        have J48_35 : ∀ (z34 : Int64), ST G mi_Sc_invert 48 [(3, .int (nI k1)), (0, .ref 183), (1, .ref a), (2, .ref to)] [.long z34, .int (nI k1), .ref 187] v 0 0 Q := by
          intro z34
          refine S_lastore d_Sc_invert_48 (by decide) a187 (vp_in_nI (by omega) (by omega)) ?_
          refine S_iincN (a := k1) (b := 1) (L' := [(3, .int (nI (k1 + 1))), (0, .ref 183), (1, .ref a), (2, .ref to)]) d_Sc_invert_49 (by decide) rfl rfl rfl ?_
          refine ST.lift (fun _ _ k => T_goto (tgt := 28) d_Sc_invert_52 rfl k) ?_
          exact ih3 (20 - (k1 + 1)) (by omega) (k1 + 1)  rfl (by omega)
        refine S_if_neN d_Sc_invert_40 rfl (by omega) (fun c33 => ?_) (fun c33 => ?_)
        · refine ST.lift (fun _ _ k => T_lconst (v := 0) d_Sc_invert_47 (by decide) k) ?_
          exact J48_35 0
        · refine ST.lift (fun _ _ k => T_lconst (v := 1) d_Sc_invert_43 (by decide) k) ?_
          refine ST.lift (fun _ _ k => T_goto (tgt := 48) d_Sc_invert_44 rfl k) ?_
          exact J48_35 1
  exact lp4 _ 0  rfl (by omega)

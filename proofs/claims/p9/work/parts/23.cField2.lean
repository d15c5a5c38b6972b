theorem S_topv {G : GX} {mi : MI} {pc : Nat} {L : List (Nat × Value)} {st : List Value} {v : Nat → Int32} {kc ks : Nat} {Q : Option Value → (Nat → Int32) → Prop} {x y : Value} (h : x = y) (k : ST G mi pc L (y :: st) v kc ks Q) : ST G mi pc L (x :: st) v kc ks Q := by subst h; exact k
set_option maxRecDepth 100000 in
set_option maxHeartbeats 4000000 in
theorem c_Fi_load (G : GX) (v : Nat → Int32) (to : Nat) (w_to : K0 ≤ to) (a_to : aL to 10) (src m : Nat) (w_src : K0 ≤ src) (a_src : aB src m) (l_src : m ≤ 2000) (pos : Nat) (b_pos : pos + 32 ≤ m) : CS G mi_Fi_load [.ref to, .ref src, .int (nI pos)] v (fun r v' => r = none ∧ v' = v) := by
  refine CS.of (by decide) (Nat.le_of_ble_eq_true rfl) ?_
  generalize hQe : (fun (r : Option Value) (v' : Nat → Int32) => r = none ∧ v' = v) = Q
  have hQ : Q none v := by rw [← hQe]; exact ⟨rfl, rfl⟩
  clear hQe
  show ST G mi_Fi_load 0 [(0, .ref to), (1, .ref src), (2, .int (nI pos))] [] v 0 0 Q
  refine ST.lift (fun _ _ k => T_lconst (v := 0) d_Fi_load_0 (by decide) k) ?_
  refine ST.lift (fun _ _ k => T_lstore_n (L' := [(3, .long 0), (0, .ref to), (1, .ref src), (2, .int (nI pos))]) d_Fi_load_1 (by decide) rfl k) ?_
  refine ST.lift (fun _ _ k => T_iconst (v := nI 0) d_Fi_load_2 (by decide) k) ?_
  refine ST.lift (fun _ _ k => T_istore (L' := [(5, .int (nI 0)), (3, .long 0), (0, .ref to), (1, .ref src), (2, .int (nI pos))]) d_Fi_load_3 (by decide) rfl k) ?_
  refine ST.lift (fun _ _ k => T_iload_n d_Fi_load_5 rfl k) ?_
  refine ST.lift (fun _ _ k => T_istore (L' := [(6, .int (nI pos)), (5, .int (nI 0)), (3, .long 0), (0, .ref to), (1, .ref src), (2, .int (nI pos))]) d_Fi_load_6 (by decide) rfl k) ?_
  refine ST.lift (fun _ _ k => T_iconst (v := nI 0) d_Fi_load_8 (by decide) k) ?_
  refine ST.lift (fun _ _ k => T_istore (L' := [(7, .int (nI 0)), (6, .int (nI pos)), (5, .int (nI 0)), (3, .long 0), (0, .ref to), (1, .ref src), (2, .int (nI pos))]) d_Fi_load_9 (by decide) rfl k) ?_
  refine ST.lift (fun _ _ k => T_iload d_Fi_load_11 rfl k) ?_
  refine ST.lift (fun _ _ k => T_bipush (v := nI 10) d_Fi_load_13 (by decide) k) ?_
  refine S_icmp_geN d_Fi_load_15 rfl (by omega) (by omega) (fun c => by first | exact absurd c (by omega) | exact c.elim | exact absurd c (by decide) | exact absurd (by assumption) c | exact absurd c (by assumption)) (fun _ => ?_)
  refine ST.lift (fun _ _ k => T_bipush (v := nI 26) d_Fi_load_18 (by decide) k) ?_
  refine ST.lift (fun _ _ k => T_iload d_Fi_load_20 rfl k) ?_
  refine ST.lift (fun _ _ k => T_iconst (v := nI 1) d_Fi_load_22 (by decide) k) ?_
  refine S_iandN 1 d_Fi_load_23 (by omega) (by decide) (by decide) ?_
  refine S_topi (y := nI 0) (by decide) ?_
  refine S_isubN d_Fi_load_24 (by omega) ?_
  refine S_topi (y := nI 26) (by decide) ?_
  refine ST.lift (fun _ _ k => T_istore (L' := [(8, .int (nI 26)), (7, .int (nI 0)), (6, .int (nI pos)), (5, .int (nI 0)), (3, .long 0), (0, .ref to), (1, .ref src), (2, .int (nI pos))]) d_Fi_load_25 (by decide) rfl k) ?_
  refine ST.lift (fun _ _ k => T_iload d_Fi_load_27 rfl k) ?_
  refine ST.lift (fun _ _ k => T_iload d_Fi_load_29 rfl k) ?_
  refine S_icmp_geN d_Fi_load_31 rfl (by omega) (by omega) (fun c => by first | exact absurd c (by omega) | exact c.elim | exact absurd c (by decide) | exact absurd (by assumption) c | exact absurd c (by assumption)) (fun _ => ?_)
  refine ST.lift (fun _ _ k => T_lload_n d_Fi_load_34 rfl k) ?_
  refine ST.lift (fun _ _ k => T_aload_n (v := .ref src) d_Fi_load_35 rfl (Or.inr ⟨_, rfl⟩) k) ?_
  refine ST.lift (fun _ _ k => T_iload d_Fi_load_36 rfl k) ?_
  refine S_baload d_Fi_load_38 a_src (vp_in_nI (by omega) (by omega)) (fun z1 hz1 => ?_)
  refine ST.lift (fun _ _ k => T_i2l d_Fi_load_39 k) (S_anyl fun z2 => ?_)
  refine ST.lift (fun _ _ k => T_ldc2 d_Fi_load_40 kJ_Fi_41 k) ?_
  refine ST.lift (fun _ _ k => T_land d_Fi_load_43 k) (S_anyl fun z3 => ?_)
  refine ST.lift (fun _ _ k => T_iload d_Fi_load_44 rfl k) ?_
  refine ST.lift (fun _ _ k => T_lshl d_Fi_load_46 k) (S_anyl fun z4 => ?_)
  refine ST.lift (fun _ _ k => T_lor d_Fi_load_47 k) (S_anyl fun z5 => ?_)
  refine ST.lift (fun _ _ k => T_lstore_n (L' := [(3, .long z5), (8, .int (nI 26)), (7, .int (nI 0)), (6, .int (nI pos)), (5, .int (nI 0)), (0, .ref to), (1, .ref src), (2, .int (nI pos))]) d_Fi_load_48 (by decide) rfl k) ?_
  refine S_iincN (a := pos) (b := 1) (L' := [(6, .int (nI (pos + 1))), (3, .long z5), (8, .int (nI 26)), (7, .int (nI 0)), (5, .int (nI 0)), (0, .ref to), (1, .ref src), (2, .int (nI pos))]) d_Fi_load_49 (by decide) rfl rfl rfl ?_
  refine S_iincN (a := 0) (b := 8) (L' := [(5, .int (nI 8)), (6, .int (nI (pos + 1))), (3, .long z5), (8, .int (nI 26)), (7, .int (nI 0)), (0, .ref to), (1, .ref src), (2, .int (nI pos))]) d_Fi_load_52 (by decide) rfl rfl rfl ?_
  refine ST.lift (fun _ _ k => T_goto (tgt := 27) d_Fi_load_55 rfl k) ?_
  refine ST.lift (fun _ _ k => T_iload d_Fi_load_27 rfl k) ?_
  refine ST.lift (fun _ _ k => T_iload d_Fi_load_29 rfl k) ?_
  refine S_icmp_geN d_Fi_load_31 rfl (by omega) (by omega) (fun c => by first | exact absurd c (by omega) | exact c.elim | exact absurd c (by decide) | exact absurd (by assumption) c | exact absurd c (by assumption)) (fun _ => ?_)
  refine ST.lift (fun _ _ k => T_lload_n d_Fi_load_34 rfl k) ?_
  refine ST.lift (fun _ _ k => T_aload_n (v := .ref src) d_Fi_load_35 rfl (Or.inr ⟨_, rfl⟩) k) ?_
  refine ST.lift (fun _ _ k => T_iload d_Fi_load_36 rfl k) ?_
  refine S_baload d_Fi_load_38 a_src (vp_in_nI (by omega) (by omega)) (fun z6 hz6 => ?_)
  refine ST.lift (fun _ _ k => T_i2l d_Fi_load_39 k) (S_anyl fun z7 => ?_)
  refine ST.lift (fun _ _ k => T_ldc2 d_Fi_load_40 kJ_Fi_41 k) ?_
  refine ST.lift (fun _ _ k => T_land d_Fi_load_43 k) (S_anyl fun z8 => ?_)
  refine ST.lift (fun _ _ k => T_iload d_Fi_load_44 rfl k) ?_
  refine ST.lift (fun _ _ k => T_lshl d_Fi_load_46 k) (S_anyl fun z9 => ?_)
  refine ST.lift (fun _ _ k => T_lor d_Fi_load_47 k) (S_anyl fun z10 => ?_)
  refine ST.lift (fun _ _ k => T_lstore_n (L' := [(3, .long z10), (5, .int (nI 8)), (6, .int (nI (pos + 1))), (8, .int (nI 26)), (7, .int (nI 0)), (0, .ref to), (1, .ref src), (2, .int (nI pos))]) d_Fi_load_48 (by decide) rfl k) ?_
  refine S_iincN (a := (pos + 1)) (b := 1) (L' := [(6, .int (nI (pos + 1 + 1))), (3, .long z10), (5, .int (nI 8)), (8, .int (nI 26)), (7, .int (nI 0)), (0, .ref to), (1, .ref src), (2, .int (nI pos))]) d_Fi_load_49 (by decide) rfl rfl rfl ?_
  refine S_iincN (a := 8) (b := 8) (L' := [(5, .int (nI 16)), (6, .int (nI (pos + 1 + 1))), (3, .long z10), (8, .int (nI 26)), (7, .int (nI 0)), (0, .ref to), (1, .ref src), (2, .int (nI pos))]) d_Fi_load_52 (by decide) rfl rfl rfl ?_
  refine ST.lift (fun _ _ k => T_goto (tgt := 27) d_Fi_load_55 rfl k) ?_
  refine ST.lift (fun _ _ k => T_iload d_Fi_load_27 rfl k) ?_
  refine ST.lift (fun _ _ k => T_iload d_Fi_load_29 rfl k) ?_
  refine S_icmp_geN d_Fi_load_31 rfl (by omega) (by omega) (fun c => by first | exact absurd c (by omega) | exact c.elim | exact absurd c (by decide) | exact absurd (by assumption) c | exact absurd c (by assumption)) (fun _ => ?_)
  refine ST.lift (fun _ _ k => T_lload_n d_Fi_load_34 rfl k) ?_
  refine ST.lift (fun _ _ k => T_aload_n (v := .ref src) d_Fi_load_35 rfl (Or.inr ⟨_, rfl⟩) k) ?_
  refine ST.lift (fun _ _ k => T_iload d_Fi_load_36 rfl k) ?_
  refine S_baload d_Fi_load_38 a_src (vp_in_nI (by omega) (by omega)) (fun z11 hz11 => ?_)
  refine ST.lift (fun _ _ k => T_i2l d_Fi_load_39 k) (S_anyl fun z12 => ?_)
  refine ST.lift (fun _ _ k => T_ldc2 d_Fi_load_40 kJ_Fi_41 k) ?_
  refine ST.lift (fun _ _ k => T_land d_Fi_load_43 k) (S_anyl fun z13 => ?_)
  refine ST.lift (fun _ _ k => T_iload d_Fi_load_44 rfl k) ?_
  refine ST.lift (fun _ _ k => T_lshl d_Fi_load_46 k) (S_anyl fun z14 => ?_)
  refine ST.lift (fun _ _ k => T_lor d_Fi_load_47 k) (S_anyl fun z15 => ?_)
  refine ST.lift (fun _ _ k => T_lstore_n (L' := [(3, .long z15), (5, .int (nI 16)), (6, .int (nI (pos + 1 + 1))), (8, .int (nI 26)), (7, .int (nI 0)), (0, .ref to), (1, .ref src), (2, .int (nI pos))]) d_Fi_load_48 (by decide) rfl k) ?_
  refine S_iincN (a := (pos + 1 + 1)) (b := 1) (L' := [(6, .int (nI (pos + 1 + 1 + 1))), (3, .long z15), (5, .int (nI 16)), (8, .int (nI 26)), (7, .int (nI 0)), (0, .ref to), (1, .ref src), (2, .int (nI pos))]) d_Fi_load_49 (by decide) rfl rfl rfl ?_
  refine S_iincN (a := 16) (b := 8) (L' := [(5, .int (nI 24)), (6, .int (nI (pos + 1 + 1 + 1))), (3, .long z15), (8, .int (nI 26)), (7, .int (nI 0)), (0, .ref to), (1, .ref src), (2, .int (nI pos))]) d_Fi_load_52 (by decide) rfl rfl rfl ?_
  refine ST.lift (fun _ _ k => T_goto (tgt := 27) d_Fi_load_55 rfl k) ?_
  refine ST.lift (fun _ _ k => T_iload d_Fi_load_27 rfl k) ?_
  refine ST.lift (fun _ _ k => T_iload d_Fi_load_29 rfl k) ?_
  refine S_icmp_geN d_Fi_load_31 rfl (by omega) (by omega) (fun c => by first | exact absurd c (by omega) | exact c.elim | exact absurd c (by decide) | exact absurd (by assumption) c | exact absurd c (by assumption)) (fun _ => ?_)
  refine ST.lift (fun _ _ k => T_lload_n d_Fi_load_34 rfl k) ?_
  refine ST.lift (fun _ _ k => T_aload_n (v := .ref src) d_Fi_load_35 rfl (Or.inr ⟨_, rfl⟩) k) ?_
  refine ST.lift (fun _ _ k => T_iload d_Fi_load_36 rfl k) ?_
  refine S_baload d_Fi_load_38 a_src (vp_in_nI (by omega) (by omega)) (fun z16 hz16 => ?_)
  refine ST.lift (fun _ _ k => T_i2l d_Fi_load_39 k) (S_anyl fun z17 => ?_)
  refine ST.lift (fun _ _ k => T_ldc2 d_Fi_load_40 kJ_Fi_41 k) ?_
  refine ST.lift (fun _ _ k => T_land d_Fi_load_43 k) (S_anyl fun z18 => ?_)
  refine ST.lift (fun _ _ k => T_iload d_Fi_load_44 rfl k) ?_
  refine ST.lift (fun _ _ k => T_lshl d_Fi_load_46 k) (S_anyl fun z19 => ?_)
  refine ST.lift (fun _ _ k => T_lor d_Fi_load_47 k) (S_anyl fun z20 => ?_)
  refine ST.lift (fun _ _ k => T_lstore_n (L' := [(3, .long z20), (5, .int (nI 24)), (6, .int (nI (pos + 1 + 1 + 1))), (8, .int (nI 26)), (7, .int (nI 0)), (0, .ref to), (1, .ref src), (2, .int (nI pos))]) d_Fi_load_48 (by decide) rfl k) ?_
  refine S_iincN (a := (pos + 1 + 1 + 1)) (b := 1) (L' := [(6, .int (nI (pos + 1 + 1 + 1 + 1))), (3, .long z20), (5, .int (nI 24)), (8, .int (nI 26)), (7, .int (nI 0)), (0, .ref to), (1, .ref src), (2, .int (nI pos))]) d_Fi_load_49 (by decide) rfl rfl rfl ?_
  refine S_iincN (a := 24) (b := 8) (L' := [(5, .int (nI 32)), (6, .int (nI (pos + 1 + 1 + 1 + 1))), (3, .long z20), (8, .int (nI 26)), (7, .int (nI 0)), (0, .ref to), (1, .ref src), (2, .int (nI pos))]) d_Fi_load_52 (by decide) rfl rfl rfl ?_
  refine ST.lift (fun _ _ k => T_goto (tgt := 27) d_Fi_load_55 rfl k) ?_
  refine ST.lift (fun _ _ k => T_iload d_Fi_load_27 rfl k) ?_
  refine ST.lift (fun _ _ k => T_iload d_Fi_load_29 rfl k) ?_
  refine S_icmp_geN d_Fi_load_31 rfl (by omega) (by omega) (fun _ => ?_) (fun c => by first | exact absurd c (by omega) | exact c.elim | exact absurd c (by decide) | exact absurd (by assumption) c | exact absurd c (by assumption))
  refine ST.lift (fun _ _ k => T_aload_n (v := .ref to) d_Fi_load_58 rfl (Or.inr ⟨_, rfl⟩) k) ?_
  refine ST.lift (fun _ _ k => T_iload d_Fi_load_59 rfl k) ?_
  refine ST.lift (fun _ _ k => T_lload_n d_Fi_load_61 rfl k) ?_
  refine ST.lift (fun _ _ k => T_lconst (v := 1) d_Fi_load_62 (by decide) k) ?_
  refine ST.lift (fun _ _ k => T_iload d_Fi_load_63 rfl k) ?_
  refine ST.lift (fun _ _ k => T_lshl d_Fi_load_65 k) (S_anyl fun z21 => ?_)
  refine ST.lift (fun _ _ k => T_lconst (v := 1) d_Fi_load_66 (by decide) k) ?_
  refine ST.lift (fun _ _ k => T_lsub d_Fi_load_67 k) (S_anyl fun z22 => ?_)
  refine ST.lift (fun _ _ k => T_land d_Fi_load_68 k) (S_anyl fun z23 => ?_)
  refine S_lastore d_Fi_load_69 w_to a_to (vp_in_nI (by omega) (by omega)) ?_
  refine ST.lift (fun _ _ k => T_lload_n d_Fi_load_70 rfl k) ?_
  refine ST.lift (fun _ _ k => T_iload d_Fi_load_71 rfl k) ?_
  refine ST.lift (fun _ _ k => T_lshr d_Fi_load_73 k) (S_anyl fun z24 => ?_)
  refine ST.lift (fun _ _ k => T_lstore_n (L' := [(3, .long z24), (5, .int (nI 32)), (6, .int (nI (pos + 1 + 1 + 1 + 1))), (8, .int (nI 26)), (7, .int (nI 0)), (0, .ref to), (1, .ref src), (2, .int (nI pos))]) d_Fi_load_74 (by decide) rfl k) ?_
  refine ST.lift (fun _ _ k => T_iload d_Fi_load_75 rfl k) ?_
  refine ST.lift (fun _ _ k => T_iload d_Fi_load_77 rfl k) ?_
  refine S_isubN d_Fi_load_79 (by omega) ?_
  refine S_topi (y := nI 6) (by decide) ?_
  refine ST.lift (fun _ _ k => T_istore (L' := [(5, .int (nI 6)), (3, .long z24), (6, .int (nI (pos + 1 + 1 + 1 + 1))), (8, .int (nI 26)), (7, .int (nI 0)), (0, .ref to), (1, .ref src), (2, .int (nI pos))]) d_Fi_load_80 (by decide) rfl k) ?_
  refine S_iincN (a := 0) (b := 1) (L' := [(7, .int (nI 1)), (5, .int (nI 6)), (3, .long z24), (6, .int (nI (pos + 1 + 1 + 1 + 1))), (8, .int (nI 26)), (0, .ref to), (1, .ref src), (2, .int (nI pos))]) d_Fi_load_82 (by decide) rfl rfl rfl ?_
  refine ST.lift (fun _ _ k => T_goto (tgt := 11) d_Fi_load_85 rfl k) ?_
  refine ST.lift (fun _ _ k => T_iload d_Fi_load_11 rfl k) ?_
  refine ST.lift (fun _ _ k => T_bipush (v := nI 10) d_Fi_load_13 (by decide) k) ?_
  refine S_icmp_geN d_Fi_load_15 rfl (by omega) (by omega) (fun c => by first | exact absurd c (by omega) | exact c.elim | exact absurd c (by decide) | exact absurd (by assumption) c | exact absurd c (by assumption)) (fun _ => ?_)
  refine ST.lift (fun _ _ k => T_bipush (v := nI 26) d_Fi_load_18 (by decide) k) ?_
  refine ST.lift (fun _ _ k => T_iload d_Fi_load_20 rfl k) ?_
  refine ST.lift (fun _ _ k => T_iconst (v := nI 1) d_Fi_load_22 (by decide) k) ?_
  refine S_iandN 1 d_Fi_load_23 (by omega) (by decide) (by decide) ?_
  refine S_topi (y := nI 1) (by decide) ?_
  refine S_isubN d_Fi_load_24 (by omega) ?_
  refine S_topi (y := nI 25) (by decide) ?_
  refine ST.lift (fun _ _ k => T_istore (L' := [(8, .int (nI 25)), (7, .int (nI 1)), (5, .int (nI 6)), (3, .long z24), (6, .int (nI (pos + 1 + 1 + 1 + 1))), (0, .ref to), (1, .ref src), (2, .int (nI pos))]) d_Fi_load_25 (by decide) rfl k) ?_
  refine ST.lift (fun _ _ k => T_iload d_Fi_load_27 rfl k) ?_
  refine ST.lift (fun _ _ k => T_iload d_Fi_load_29 rfl k) ?_
  refine S_icmp_geN d_Fi_load_31 rfl (by omega) (by omega) (fun c => by first | exact absurd c (by omega) | exact c.elim | exact absurd c (by decide) | exact absurd (by assumption) c | exact absurd c (by assumption)) (fun _ => ?_)
  refine ST.lift (fun _ _ k => T_lload_n d_Fi_load_34 rfl k) ?_
  refine ST.lift (fun _ _ k => T_aload_n (v := .ref src) d_Fi_load_35 rfl (Or.inr ⟨_, rfl⟩) k) ?_
  refine ST.lift (fun _ _ k => T_iload d_Fi_load_36 rfl k) ?_
  refine S_baload d_Fi_load_38 a_src (vp_in_nI (by omega) (by omega)) (fun z25 hz25 => ?_)
  refine ST.lift (fun _ _ k => T_i2l d_Fi_load_39 k) (S_anyl fun z26 => ?_)
  refine ST.lift (fun _ _ k => T_ldc2 d_Fi_load_40 kJ_Fi_41 k) ?_
  refine ST.lift (fun _ _ k => T_land d_Fi_load_43 k) (S_anyl fun z27 => ?_)
  refine ST.lift (fun _ _ k => T_iload d_Fi_load_44 rfl k) ?_
  refine ST.lift (fun _ _ k => T_lshl d_Fi_load_46 k) (S_anyl fun z28 => ?_)
  refine ST.lift (fun _ _ k => T_lor d_Fi_load_47 k) (S_anyl fun z29 => ?_)
  refine ST.lift (fun _ _ k => T_lstore_n (L' := [(3, .long z29), (8, .int (nI 25)), (7, .int (nI 1)), (5, .int (nI 6)), (6, .int (nI (pos + 1 + 1 + 1 + 1))), (0, .ref to), (1, .ref src), (2, .int (nI pos))]) d_Fi_load_48 (by decide) rfl k) ?_
  refine S_iincN (a := (pos + 1 + 1 + 1 + 1)) (b := 1) (L' := [(6, .int (nI (pos + 1 + 1 + 1 + 1 + 1))), (3, .long z29), (8, .int (nI 25)), (7, .int (nI 1)), (5, .int (nI 6)), (0, .ref to), (1, .ref src), (2, .int (nI pos))]) d_Fi_load_49 (by decide) rfl rfl rfl ?_
  refine S_iincN (a := 6) (b := 8) (L' := [(5, .int (nI 14)), (6, .int (nI (pos + 1 + 1 + 1 + 1 + 1))), (3, .long z29), (8, .int (nI 25)), (7, .int (nI 1)), (0, .ref to), (1, .ref src), (2, .int (nI pos))]) d_Fi_load_52 (by decide) rfl rfl rfl ?_
  refine ST.lift (fun _ _ k => T_goto (tgt := 27) d_Fi_load_55 rfl k) ?_
  refine ST.lift (fun _ _ k => T_iload d_Fi_load_27 rfl k) ?_
  refine ST.lift (fun _ _ k => T_iload d_Fi_load_29 rfl k) ?_
  refine S_icmp_geN d_Fi_load_31 rfl (by omega) (by omega) (fun c => by first | exact absurd c (by omega) | exact c.elim | exact absurd c (by decide) | exact absurd (by assumption) c | exact absurd c (by assumption)) (fun _ => ?_)
  refine ST.lift (fun _ _ k => T_lload_n d_Fi_load_34 rfl k) ?_
  refine ST.lift (fun _ _ k => T_aload_n (v := .ref src) d_Fi_load_35 rfl (Or.inr ⟨_, rfl⟩) k) ?_
  refine ST.lift (fun _ _ k => T_iload d_Fi_load_36 rfl k) ?_
  refine S_baload d_Fi_load_38 a_src (vp_in_nI (by omega) (by omega)) (fun z30 hz30 => ?_)
  refine ST.lift (fun _ _ k => T_i2l d_Fi_load_39 k) (S_anyl fun z31 => ?_)
  refine ST.lift (fun _ _ k => T_ldc2 d_Fi_load_40 kJ_Fi_41 k) ?_
  refine ST.lift (fun _ _ k => T_land d_Fi_load_43 k) (S_anyl fun z32 => ?_)
  refine ST.lift (fun _ _ k => T_iload d_Fi_load_44 rfl k) ?_
  refine ST.lift (fun _ _ k => T_lshl d_Fi_load_46 k) (S_anyl fun z33 => ?_)
  refine ST.lift (fun _ _ k => T_lor d_Fi_load_47 k) (S_anyl fun z34 => ?_)
  refine ST.lift (fun _ _ k => T_lstore_n (L' := [(3, .long z34), (5, .int (nI 14)), (6, .int (nI (pos + 1 + 1 + 1 + 1 + 1))), (8, .int (nI 25)), (7, .int (nI 1)), (0, .ref to), (1, .ref src), (2, .int (nI pos))]) d_Fi_load_48 (by decide) rfl k) ?_
  refine S_iincN (a := (pos + 1 + 1 + 1 + 1 + 1)) (b := 1) (L' := [(6, .int (nI (pos + 1 + 1 + 1 + 1 + 1 + 1))), (3, .long z34), (5, .int (nI 14)), (8, .int (nI 25)), (7, .int (nI 1)), (0, .ref to), (1, .ref src), (2, .int (nI pos))]) d_Fi_load_49 (by decide) rfl rfl rfl ?_
  refine S_iincN (a := 14) (b := 8) (L' := [(5, .int (nI 22)), (6, .int (nI (pos + 1 + 1 + 1 + 1 + 1 + 1))), (3, .long z34), (8, .int (nI 25)), (7, .int (nI 1)), (0, .ref to), (1, .ref src), (2, .int (nI pos))]) d_Fi_load_52 (by decide) rfl rfl rfl ?_
  refine ST.lift (fun _ _ k => T_goto (tgt := 27) d_Fi_load_55 rfl k) ?_
  refine ST.lift (fun _ _ k => T_iload d_Fi_load_27 rfl k) ?_
  refine ST.lift (fun _ _ k => T_iload d_Fi_load_29 rfl k) ?_
  refine S_icmp_geN d_Fi_load_31 rfl (by omega) (by omega) (fun c => by first | exact absurd c (by omega) | exact c.elim | exact absurd c (by decide) | exact absurd (by assumption) c | exact absurd c (by assumption)) (fun _ => ?_)
  refine ST.lift (fun _ _ k => T_lload_n d_Fi_load_34 rfl k) ?_
  refine ST.lift (fun _ _ k => T_aload_n (v := .ref src) d_Fi_load_35 rfl (Or.inr ⟨_, rfl⟩) k) ?_
  refine ST.lift (fun _ _ k => T_iload d_Fi_load_36 rfl k) ?_
  refine S_baload d_Fi_load_38 a_src (vp_in_nI (by omega) (by omega)) (fun z35 hz35 => ?_)
  refine ST.lift (fun _ _ k => T_i2l d_Fi_load_39 k) (S_anyl fun z36 => ?_)
  refine ST.lift (fun _ _ k => T_ldc2 d_Fi_load_40 kJ_Fi_41 k) ?_
  refine ST.lift (fun _ _ k => T_land d_Fi_load_43 k) (S_anyl fun z37 => ?_)
  refine ST.lift (fun _ _ k => T_iload d_Fi_load_44 rfl k) ?_
  refine ST.lift (fun _ _ k => T_lshl d_Fi_load_46 k) (S_anyl fun z38 => ?_)
  refine ST.lift (fun _ _ k => T_lor d_Fi_load_47 k) (S_anyl fun z39 => ?_)
  refine ST.lift (fun _ _ k => T_lstore_n (L' := [(3, .long z39), (5, .int (nI 22)), (6, .int (nI (pos + 1 + 1 + 1 + 1 + 1 + 1))), (8, .int (nI 25)), (7, .int (nI 1)), (0, .ref to), (1, .ref src), (2, .int (nI pos))]) d_Fi_load_48 (by decide) rfl k) ?_
  refine S_iincN (a := (pos + 1 + 1 + 1 + 1 + 1 + 1)) (b := 1) (L' := [(6, .int (nI (pos + 1 + 1 + 1 + 1 + 1 + 1 + 1))), (3, .long z39), (5, .int (nI 22)), (8, .int (nI 25)), (7, .int (nI 1)), (0, .ref to), (1, .ref src), (2, .int (nI pos))]) d_Fi_load_49 (by decide) rfl rfl rfl ?_
  refine S_iincN (a := 22) (b := 8) (L' := [(5, .int (nI 30)), (6, .int (nI (pos + 1 + 1 + 1 + 1 + 1 + 1 + 1))), (3, .long z39), (8, .int (nI 25)), (7, .int (nI 1)), (0, .ref to), (1, .ref src), (2, .int (nI pos))]) d_Fi_load_52 (by decide) rfl rfl rfl ?_
  refine ST.lift (fun _ _ k => T_goto (tgt := 27) d_Fi_load_55 rfl k) ?_
  refine ST.lift (fun _ _ k => T_iload d_Fi_load_27 rfl k) ?_
  refine ST.lift (fun _ _ k => T_iload d_Fi_load_29 rfl k) ?_
  refine S_icmp_geN d_Fi_load_31 rfl (by omega) (by omega) (fun _ => ?_) (fun c => by first | exact absurd c (by omega) | exact c.elim | exact absurd c (by decide) | exact absurd (by assumption) c | exact absurd c (by assumption))
  refine ST.lift (fun _ _ k => T_aload_n (v := .ref to) d_Fi_load_58 rfl (Or.inr ⟨_, rfl⟩) k) ?_
  refine ST.lift (fun _ _ k => T_iload d_Fi_load_59 rfl k) ?_
  refine ST.lift (fun _ _ k => T_lload_n d_Fi_load_61 rfl k) ?_
  refine ST.lift (fun _ _ k => T_lconst (v := 1) d_Fi_load_62 (by decide) k) ?_
  refine ST.lift (fun _ _ k => T_iload d_Fi_load_63 rfl k) ?_
  refine ST.lift (fun _ _ k => T_lshl d_Fi_load_65 k) (S_anyl fun z40 => ?_)
  refine ST.lift (fun _ _ k => T_lconst (v := 1) d_Fi_load_66 (by decide) k) ?_
  refine ST.lift (fun _ _ k => T_lsub d_Fi_load_67 k) (S_anyl fun z41 => ?_)
  refine ST.lift (fun _ _ k => T_land d_Fi_load_68 k) (S_anyl fun z42 => ?_)
  refine S_lastore d_Fi_load_69 w_to a_to (vp_in_nI (by omega) (by omega)) ?_
  refine ST.lift (fun _ _ k => T_lload_n d_Fi_load_70 rfl k) ?_
  refine ST.lift (fun _ _ k => T_iload d_Fi_load_71 rfl k) ?_
  refine ST.lift (fun _ _ k => T_lshr d_Fi_load_73 k) (S_anyl fun z43 => ?_)
  refine ST.lift (fun _ _ k => T_lstore_n (L' := [(3, .long z43), (5, .int (nI 30)), (6, .int (nI (pos + 1 + 1 + 1 + 1 + 1 + 1 + 1))), (8, .int (nI 25)), (7, .int (nI 1)), (0, .ref to), (1, .ref src), (2, .int (nI pos))]) d_Fi_load_74 (by decide) rfl k) ?_
  refine ST.lift (fun _ _ k => T_iload d_Fi_load_75 rfl k) ?_
  refine ST.lift (fun _ _ k => T_iload d_Fi_load_77 rfl k) ?_
  refine S_isubN d_Fi_load_79 (by omega) ?_
  refine S_topi (y := nI 5) (by decide) ?_
  refine ST.lift (fun _ _ k => T_istore (L' := [(5, .int (nI 5)), (3, .long z43), (6, .int (nI (pos + 1 + 1 + 1 + 1 + 1 + 1 + 1))), (8, .int (nI 25)), (7, .int (nI 1)), (0, .ref to), (1, .ref src), (2, .int (nI pos))]) d_Fi_load_80 (by decide) rfl k) ?_
  refine S_iincN (a := 1) (b := 1) (L' := [(7, .int (nI 2)), (5, .int (nI 5)), (3, .long z43), (6, .int (nI (pos + 1 + 1 + 1 + 1 + 1 + 1 + 1))), (8, .int (nI 25)), (0, .ref to), (1, .ref src), (2, .int (nI pos))]) d_Fi_load_82 (by decide) rfl rfl rfl ?_
  refine ST.lift (fun _ _ k => T_goto (tgt := 11) d_Fi_load_85 rfl k) ?_
  refine ST.lift (fun _ _ k => T_iload d_Fi_load_11 rfl k) ?_
  refine ST.lift (fun _ _ k => T_bipush (v := nI 10) d_Fi_load_13 (by decide) k) ?_
  refine S_icmp_geN d_Fi_load_15 rfl (by omega) (by omega) (fun c => by first | exact absurd c (by omega) | exact c.elim | exact absurd c (by decide) | exact absurd (by assumption) c | exact absurd c (by assumption)) (fun _ => ?_)
  refine ST.lift (fun _ _ k => T_bipush (v := nI 26) d_Fi_load_18 (by decide) k) ?_
  refine ST.lift (fun _ _ k => T_iload d_Fi_load_20 rfl k) ?_
  refine ST.lift (fun _ _ k => T_iconst (v := nI 1) d_Fi_load_22 (by decide) k) ?_
  refine S_iandN 1 d_Fi_load_23 (by omega) (by decide) (by decide) ?_
  refine S_topi (y := nI 0) (by decide) ?_
  refine S_isubN d_Fi_load_24 (by omega) ?_
  refine S_topi (y := nI 26) (by decide) ?_
  refine ST.lift (fun _ _ k => T_istore (L' := [(8, .int (nI 26)), (7, .int (nI 2)), (5, .int (nI 5)), (3, .long z43), (6, .int (nI (pos + 1 + 1 + 1 + 1 + 1 + 1 + 1))), (0, .ref to), (1, .ref src), (2, .int (nI pos))]) d_Fi_load_25 (by decide) rfl k) ?_
  refine ST.lift (fun _ _ k => T_iload d_Fi_load_27 rfl k) ?_
  refine ST.lift (fun _ _ k => T_iload d_Fi_load_29 rfl k) ?_
  refine S_icmp_geN d_Fi_load_31 rfl (by omega) (by omega) (fun c => by first | exact absurd c (by omega) | exact c.elim | exact absurd c (by decide) | exact absurd (by assumption) c | exact absurd c (by assumption)) (fun _ => ?_)
  refine ST.lift (fun _ _ k => T_lload_n d_Fi_load_34 rfl k) ?_
  refine ST.lift (fun _ _ k => T_aload_n (v := .ref src) d_Fi_load_35 rfl (Or.inr ⟨_, rfl⟩) k) ?_
  refine ST.lift (fun _ _ k => T_iload d_Fi_load_36 rfl k) ?_
  refine S_baload d_Fi_load_38 a_src (vp_in_nI (by omega) (by omega)) (fun z44 hz44 => ?_)
  refine ST.lift (fun _ _ k => T_i2l d_Fi_load_39 k) (S_anyl fun z45 => ?_)
  refine ST.lift (fun _ _ k => T_ldc2 d_Fi_load_40 kJ_Fi_41 k) ?_
  refine ST.lift (fun _ _ k => T_land d_Fi_load_43 k) (S_anyl fun z46 => ?_)
  refine ST.lift (fun _ _ k => T_iload d_Fi_load_44 rfl k) ?_
  refine ST.lift (fun _ _ k => T_lshl d_Fi_load_46 k) (S_anyl fun z47 => ?_)
  refine ST.lift (fun _ _ k => T_lor d_Fi_load_47 k) (S_anyl fun z48 => ?_)
  refine ST.lift (fun _ _ k => T_lstore_n (L' := [(3, .long z48), (8, .int (nI 26)), (7, .int (nI 2)), (5, .int (nI 5)), (6, .int (nI (pos + 1 + 1 + 1 + 1 + 1 + 1 + 1))), (0, .ref to), (1, .ref src), (2, .int (nI pos))]) d_Fi_load_48 (by decide) rfl k) ?_
  refine S_iincN (a := (pos + 1 + 1 + 1 + 1 + 1 + 1 + 1)) (b := 1) (L' := [(6, .int (nI (pos + 1 + 1 + 1 + 1 + 1 + 1 + 1 + 1))), (3, .long z48), (8, .int (nI 26)), (7, .int (nI 2)), (5, .int (nI 5)), (0, .ref to), (1, .ref src), (2, .int (nI pos))]) d_Fi_load_49 (by decide) rfl rfl rfl ?_
  refine S_iincN (a := 5) (b := 8) (L' := [(5, .int (nI 13)), (6, .int (nI (pos + 1 + 1 + 1 + 1 + 1 + 1 + 1 + 1))), (3, .long z48), (8, .int (nI 26)), (7, .int (nI 2)), (0, .ref to), (1, .ref src), (2, .int (nI pos))]) d_Fi_load_52 (by decide) rfl rfl rfl ?_
  refine ST.lift (fun _ _ k => T_goto (tgt := 27) d_Fi_load_55 rfl k) ?_
  refine ST.lift (fun _ _ k => T_iload d_Fi_load_27 rfl k) ?_
  refine ST.lift (fun _ _ k => T_iload d_Fi_load_29 rfl k) ?_
  refine S_icmp_geN d_Fi_load_31 rfl (by omega) (by omega) (fun c => by first | exact absurd c (by omega) | exact c.elim | exact absurd c (by decide) | exact absurd (by assumption) c | exact absurd c (by assumption)) (fun _ => ?_)
  refine ST.lift (fun _ _ k => T_lload_n d_Fi_load_34 rfl k) ?_
  refine ST.lift (fun _ _ k => T_aload_n (v := .ref src) d_Fi_load_35 rfl (Or.inr ⟨_, rfl⟩) k) ?_
  refine ST.lift (fun _ _ k => T_iload d_Fi_load_36 rfl k) ?_
  refine S_baload d_Fi_load_38 a_src (vp_in_nI (by omega) (by omega)) (fun z49 hz49 => ?_)
  refine ST.lift (fun _ _ k => T_i2l d_Fi_load_39 k) (S_anyl fun z50 => ?_)
  refine ST.lift (fun _ _ k => T_ldc2 d_Fi_load_40 kJ_Fi_41 k) ?_
  refine ST.lift (fun _ _ k => T_land d_Fi_load_43 k) (S_anyl fun z51 => ?_)
  refine ST.lift (fun _ _ k => T_iload d_Fi_load_44 rfl k) ?_
  refine ST.lift (fun _ _ k => T_lshl d_Fi_load_46 k) (S_anyl fun z52 => ?_)
  refine ST.lift (fun _ _ k => T_lor d_Fi_load_47 k) (S_anyl fun z53 => ?_)
  refine ST.lift (fun _ _ k => T_lstore_n (L' := [(3, .long z53), (5, .int (nI 13)), (6, .int (nI (pos + 1 + 1 + 1 + 1 + 1 + 1 + 1 + 1))), (8, .int (nI 26)), (7, .int (nI 2)), (0, .ref to), (1, .ref src), (2, .int (nI pos))]) d_Fi_load_48 (by decide) rfl k) ?_
  refine S_iincN (a := (pos + 1 + 1 + 1 + 1 + 1 + 1 + 1 + 1)) (b := 1) (L' := [(6, .int (nI (pos + 1 + 1 + 1 + 1 + 1 + 1 + 1 + 1 + 1))), (3, .long z53), (5, .int (nI 13)), (8, .int (nI 26)), (7, .int (nI 2)), (0, .ref to), (1, .ref src), (2, .int (nI pos))]) d_Fi_load_49 (by decide) rfl rfl rfl ?_
  refine S_iincN (a := 13) (b := 8) (L' := [(5, .int (nI 21)), (6, .int (nI (pos + 1 + 1 + 1 + 1 + 1 + 1 + 1 + 1 + 1))), (3, .long z53), (8, .int (nI 26)), (7, .int (nI 2)), (0, .ref to), (1, .ref src), (2, .int (nI pos))]) d_Fi_load_52 (by decide) rfl rfl rfl ?_
  refine ST.lift (fun _ _ k => T_goto (tgt := 27) d_Fi_load_55 rfl k) ?_
  refine ST.lift (fun _ _ k => T_iload d_Fi_load_27 rfl k) ?_
  refine ST.lift (fun _ _ k => T_iload d_Fi_load_29 rfl k) ?_
  refine S_icmp_geN d_Fi_load_31 rfl (by omega) (by omega) (fun c => by first | exact absurd c (by omega) | exact c.elim | exact absurd c (by decide) | exact absurd (by assumption) c | exact absurd c (by assumption)) (fun _ => ?_)
  refine ST.lift (fun _ _ k => T_lload_n d_Fi_load_34 rfl k) ?_
  refine ST.lift (fun _ _ k => T_aload_n (v := .ref src) d_Fi_load_35 rfl (Or.inr ⟨_, rfl⟩) k) ?_
  refine ST.lift (fun _ _ k => T_iload d_Fi_load_36 rfl k) ?_
  refine S_baload d_Fi_load_38 a_src (vp_in_nI (by omega) (by omega)) (fun z54 hz54 => ?_)
  refine ST.lift (fun _ _ k => T_i2l d_Fi_load_39 k) (S_anyl fun z55 => ?_)
  refine ST.lift (fun _ _ k => T_ldc2 d_Fi_load_40 kJ_Fi_41 k) ?_
  refine ST.lift (fun _ _ k => T_land d_Fi_load_43 k) (S_anyl fun z56 => ?_)
  refine ST.lift (fun _ _ k => T_iload d_Fi_load_44 rfl k) ?_
  refine ST.lift (fun _ _ k => T_lshl d_Fi_load_46 k) (S_anyl fun z57 => ?_)
  refine ST.lift (fun _ _ k => T_lor d_Fi_load_47 k) (S_anyl fun z58 => ?_)
  refine ST.lift (fun _ _ k => T_lstore_n (L' := [(3, .long z58), (5, .int (nI 21)), (6, .int (nI (pos + 1 + 1 + 1 + 1 + 1 + 1 + 1 + 1 + 1))), (8, .int (nI 26)), (7, .int (nI 2)), (0, .ref to), (1, .ref src), (2, .int (nI pos))]) d_Fi_load_48 (by decide) rfl k) ?_
  refine S_iincN (a := (pos + 1 + 1 + 1 + 1 + 1 + 1 + 1 + 1 + 1)) (b := 1) (L' := [(6, .int (nI (pos + 1 + 1 + 1 + 1 + 1 + 1 + 1 + 1 + 1 + 1))), (3, .long z58), (5, .int (nI 21)), (8, .int (nI 26)), (7, .int (nI 2)), (0, .ref to), (1, .ref src), (2, .int (nI pos))]) d_Fi_load_49 (by decide) rfl rfl rfl ?_
  refine S_iincN (a := 21) (b := 8) (L' := [(5, .int (nI 29)), (6, .int (nI (pos + 1 + 1 + 1 + 1 + 1 + 1 + 1 + 1 + 1 + 1))), (3, .long z58), (8, .int (nI 26)), (7, .int (nI 2)), (0, .ref to), (1, .ref src), (2, .int (nI pos))]) d_Fi_load_52 (by decide) rfl rfl rfl ?_
  refine ST.lift (fun _ _ k => T_goto (tgt := 27) d_Fi_load_55 rfl k) ?_
  refine ST.lift (fun _ _ k => T_iload d_Fi_load_27 rfl k) ?_
  refine ST.lift (fun _ _ k => T_iload d_Fi_load_29 rfl k) ?_
  refine S_icmp_geN d_Fi_load_31 rfl (by omega) (by omega) (fun _ => ?_) (fun c => by first | exact absurd c (by omega) | exact c.elim | exact absurd c (by decide) | exact absurd (by assumption) c | exact absurd c (by assumption))
  refine ST.lift (fun _ _ k => T_aload_n (v := .ref to) d_Fi_load_58 rfl (Or.inr ⟨_, rfl⟩) k) ?_
  refine ST.lift (fun _ _ k => T_iload d_Fi_load_59 rfl k) ?_
  refine ST.lift (fun _ _ k => T_lload_n d_Fi_load_61 rfl k) ?_
  refine ST.lift (fun _ _ k => T_lconst (v := 1) d_Fi_load_62 (by decide) k) ?_
  refine ST.lift (fun _ _ k => T_iload d_Fi_load_63 rfl k) ?_
  refine ST.lift (fun _ _ k => T_lshl d_Fi_load_65 k) (S_anyl fun z59 => ?_)
  refine ST.lift (fun _ _ k => T_lconst (v := 1) d_Fi_load_66 (by decide) k) ?_
  refine ST.lift (fun _ _ k => T_lsub d_Fi_load_67 k) (S_anyl fun z60 => ?_)
  refine ST.lift (fun _ _ k => T_land d_Fi_load_68 k) (S_anyl fun z61 => ?_)
  refine S_lastore d_Fi_load_69 w_to a_to (vp_in_nI (by omega) (by omega)) ?_
  refine ST.lift (fun _ _ k => T_lload_n d_Fi_load_70 rfl k) ?_
  refine ST.lift (fun _ _ k => T_iload d_Fi_load_71 rfl k) ?_
  refine ST.lift (fun _ _ k => T_lshr d_Fi_load_73 k) (S_anyl fun z62 => ?_)
  refine ST.lift (fun _ _ k => T_lstore_n (L' := [(3, .long z62), (5, .int (nI 29)), (6, .int (nI (pos + 1 + 1 + 1 + 1 + 1 + 1 + 1 + 1 + 1 + 1))), (8, .int (nI 26)), (7, .int (nI 2)), (0, .ref to), (1, .ref src), (2, .int (nI pos))]) d_Fi_load_74 (by decide) rfl k) ?_
  refine ST.lift (fun _ _ k => T_iload d_Fi_load_75 rfl k) ?_
  refine ST.lift (fun _ _ k => T_iload d_Fi_load_77 rfl k) ?_
  refine S_isubN d_Fi_load_79 (by omega) ?_
  refine S_topi (y := nI 3) (by decide) ?_
  refine ST.lift (fun _ _ k => T_istore (L' := [(5, .int (nI 3)), (3, .long z62), (6, .int (nI (pos + 1 + 1 + 1 + 1 + 1 + 1 + 1 + 1 + 1 + 1))), (8, .int (nI 26)), (7, .int (nI 2)), (0, .ref to), (1, .ref src), (2, .int (nI pos))]) d_Fi_load_80 (by decide) rfl k) ?_
  refine S_iincN (a := 2) (b := 1) (L' := [(7, .int (nI 3)), (5, .int (nI 3)), (3, .long z62), (6, .int (nI (pos + 1 + 1 + 1 + 1 + 1 + 1 + 1 + 1 + 1 + 1))), (8, .int (nI 26)), (0, .ref to), (1, .ref src), (2, .int (nI pos))]) d_Fi_load_82 (by decide) rfl rfl rfl ?_
  refine ST.lift (fun _ _ k => T_goto (tgt := 11) d_Fi_load_85 rfl k) ?_
  refine ST.lift (fun _ _ k => T_iload d_Fi_load_11 rfl k) ?_
  refine ST.lift (fun _ _ k => T_bipush (v := nI 10) d_Fi_load_13 (by decide) k) ?_
  refine S_icmp_geN d_Fi_load_15 rfl (by omega) (by omega) (fun c => by first | exact absurd c (by omega) | exact c.elim | exact absurd c (by decide) | exact absurd (by assumption) c | exact absurd c (by assumption)) (fun _ => ?_)
  refine ST.lift (fun _ _ k => T_bipush (v := nI 26) d_Fi_load_18 (by decide) k) ?_
  refine ST.lift (fun _ _ k => T_iload d_Fi_load_20 rfl k) ?_
  refine ST.lift (fun _ _ k => T_iconst (v := nI 1) d_Fi_load_22 (by decide) k) ?_
  refine S_iandN 1 d_Fi_load_23 (by omega) (by decide) (by decide) ?_
  refine S_topi (y := nI 1) (by decide) ?_
  refine S_isubN d_Fi_load_24 (by omega) ?_
  refine S_topi (y := nI 25) (by decide) ?_
  refine ST.lift (fun _ _ k => T_istore (L' := [(8, .int (nI 25)), (7, .int (nI 3)), (5, .int (nI 3)), (3, .long z62), (6, .int (nI (pos + 1 + 1 + 1 + 1 + 1 + 1 + 1 + 1 + 1 + 1))), (0, .ref to), (1, .ref src), (2, .int (nI pos))]) d_Fi_load_25 (by decide) rfl k) ?_
  refine ST.lift (fun _ _ k => T_iload d_Fi_load_27 rfl k) ?_
  refine ST.lift (fun _ _ k => T_iload d_Fi_load_29 rfl k) ?_
  refine S_icmp_geN d_Fi_load_31 rfl (by omega) (by omega) (fun c => by first | exact absurd c (by omega) | exact c.elim | exact absurd c (by decide) | exact absurd (by assumption) c | exact absurd c (by assumption)) (fun _ => ?_)
  refine ST.lift (fun _ _ k => T_lload_n d_Fi_load_34 rfl k) ?_
  refine ST.lift (fun _ _ k => T_aload_n (v := .ref src) d_Fi_load_35 rfl (Or.inr ⟨_, rfl⟩) k) ?_
  refine ST.lift (fun _ _ k => T_iload d_Fi_load_36 rfl k) ?_
  refine S_baload d_Fi_load_38 a_src (vp_in_nI (by omega) (by omega)) (fun z63 hz63 => ?_)
  refine ST.lift (fun _ _ k => T_i2l d_Fi_load_39 k) (S_anyl fun z64 => ?_)
  refine ST.lift (fun _ _ k => T_ldc2 d_Fi_load_40 kJ_Fi_41 k) ?_
  refine ST.lift (fun _ _ k => T_land d_Fi_load_43 k) (S_anyl fun z65 => ?_)
  refine ST.lift (fun _ _ k => T_iload d_Fi_load_44 rfl k) ?_
  refine ST.lift (fun _ _ k => T_lshl d_Fi_load_46 k) (S_anyl fun z66 => ?_)
  refine ST.lift (fun _ _ k => T_lor d_Fi_load_47 k) (S_anyl fun z67 => ?_)
  refine ST.lift (fun _ _ k => T_lstore_n (L' := [(3, .long z67), (8, .int (nI 25)), (7, .int (nI 3)), (5, .int (nI 3)), (6, .int (nI (pos + 1 + 1 + 1 + 1 + 1 + 1 + 1 + 1 + 1 + 1))), (0, .ref to), (1, .ref src), (2, .int (nI pos))]) d_Fi_load_48 (by decide) rfl k) ?_
  refine S_iincN (a := (pos + 1 + 1 + 1 + 1 + 1 + 1 + 1 + 1 + 1 + 1)) (b := 1) (L' := [(6, .int (nI (pos + 1 + 1 + 1 + 1 + 1 + 1 + 1 + 1 + 1 + 1 + 1))), (3, .long z67), (8, .int (nI 25)), (7, .int (nI 3)), (5, .int (nI 3)), (0, .ref to), (1, .ref src), (2, .int (nI pos))]) d_Fi_load_49 (by decide) rfl rfl rfl ?_
  refine S_iincN (a := 3) (b := 8) (L' := [(5, .int (nI 11)), (6, .int (nI (pos + 1 + 1 + 1 + 1 + 1 + 1 + 1 + 1 + 1 + 1 + 1))), (3, .long z67), (8, .int (nI 25)), (7, .int (nI 3)), (0, .ref to), (1, .ref src), (2, .int (nI pos))]) d_Fi_load_52 (by decide) rfl rfl rfl ?_
  refine ST.lift (fun _ _ k => T_goto (tgt := 27) d_Fi_load_55 rfl k) ?_
  refine ST.lift (fun _ _ k => T_iload d_Fi_load_27 rfl k) ?_
  refine ST.lift (fun _ _ k => T_iload d_Fi_load_29 rfl k) ?_
  refine S_icmp_geN d_Fi_load_31 rfl (by omega) (by omega) (fun c => by first | exact absurd c (by omega) | exact c.elim | exact absurd c (by decide) | exact absurd (by assumption) c | exact absurd c (by assumption)) (fun _ => ?_)
  refine ST.lift (fun _ _ k => T_lload_n d_Fi_load_34 rfl k) ?_
  refine ST.lift (fun _ _ k => T_aload_n (v := .ref src) d_Fi_load_35 rfl (Or.inr ⟨_, rfl⟩) k) ?_
  refine ST.lift (fun _ _ k => T_iload d_Fi_load_36 rfl k) ?_
  refine S_baload d_Fi_load_38 a_src (vp_in_nI (by omega) (by omega)) (fun z68 hz68 => ?_)
  refine ST.lift (fun _ _ k => T_i2l d_Fi_load_39 k) (S_anyl fun z69 => ?_)
  refine ST.lift (fun _ _ k => T_ldc2 d_Fi_load_40 kJ_Fi_41 k) ?_
  refine ST.lift (fun _ _ k => T_land d_Fi_load_43 k) (S_anyl fun z70 => ?_)
  refine ST.lift (fun _ _ k => T_iload d_Fi_load_44 rfl k) ?_
  refine ST.lift (fun _ _ k => T_lshl d_Fi_load_46 k) (S_anyl fun z71 => ?_)
  refine ST.lift (fun _ _ k => T_lor d_Fi_load_47 k) (S_anyl fun z72 => ?_)
  refine ST.lift (fun _ _ k => T_lstore_n (L' := [(3, .long z72), (5, .int (nI 11)), (6, .int (nI (pos + 1 + 1 + 1 + 1 + 1 + 1 + 1 + 1 + 1 + 1 + 1))), (8, .int (nI 25)), (7, .int (nI 3)), (0, .ref to), (1, .ref src), (2, .int (nI pos))]) d_Fi_load_48 (by decide) rfl k) ?_
  refine S_iincN (a := (pos + 1 + 1 + 1 + 1 + 1 + 1 + 1 + 1 + 1 + 1 + 1)) (b := 1) (L' := [(6, .int (nI (pos + 1 + 1 + 1 + 1 + 1 + 1 + 1 + 1 + 1 + 1 + 1 + 1))), (3, .long z72), (5, .int (nI 11)), (8, .int (nI 25)), (7, .int (nI 3)), (0, .ref to), (1, .ref src), (2, .int (nI pos))]) d_Fi_load_49 (by decide) rfl rfl rfl ?_
  refine S_iincN (a := 11) (b := 8) (L' := [(5, .int (nI 19)), (6, .int (nI (pos + 1 + 1 + 1 + 1 + 1 + 1 + 1 + 1 + 1 + 1 + 1 + 1))), (3, .long z72), (8, .int (nI 25)), (7, .int (nI 3)), (0, .ref to), (1, .ref src), (2, .int (nI pos))]) d_Fi_load_52 (by decide) rfl rfl rfl ?_
  refine ST.lift (fun _ _ k => T_goto (tgt := 27) d_Fi_load_55 rfl k) ?_
  refine ST.lift (fun _ _ k => T_iload d_Fi_load_27 rfl k) ?_
  refine ST.lift (fun _ _ k => T_iload d_Fi_load_29 rfl k) ?_
  refine S_icmp_geN d_Fi_load_31 rfl (by omega) (by omega) (fun c => by first | exact absurd c (by omega) | exact c.elim | exact absurd c (by decide) | exact absurd (by assumption) c | exact absurd c (by assumption)) (fun _ => ?_)
  refine ST.lift (fun _ _ k => T_lload_n d_Fi_load_34 rfl k) ?_
  refine ST.lift (fun _ _ k => T_aload_n (v := .ref src) d_Fi_load_35 rfl (Or.inr ⟨_, rfl⟩) k) ?_
  refine ST.lift (fun _ _ k => T_iload d_Fi_load_36 rfl k) ?_
  refine S_baload d_Fi_load_38 a_src (vp_in_nI (by omega) (by omega)) (fun z73 hz73 => ?_)
  refine ST.lift (fun _ _ k => T_i2l d_Fi_load_39 k) (S_anyl fun z74 => ?_)
  refine ST.lift (fun _ _ k => T_ldc2 d_Fi_load_40 kJ_Fi_41 k) ?_
  refine ST.lift (fun _ _ k => T_land d_Fi_load_43 k) (S_anyl fun z75 => ?_)
  refine ST.lift (fun _ _ k => T_iload d_Fi_load_44 rfl k) ?_
  refine ST.lift (fun _ _ k => T_lshl d_Fi_load_46 k) (S_anyl fun z76 => ?_)
  refine ST.lift (fun _ _ k => T_lor d_Fi_load_47 k) (S_anyl fun z77 => ?_)
  refine ST.lift (fun _ _ k => T_lstore_n (L' := [(3, .long z77), (5, .int (nI 19)), (6, .int (nI (pos + 1 + 1 + 1 + 1 + 1 + 1 + 1 + 1 + 1 + 1 + 1 + 1))), (8, .int (nI 25)), (7, .int (nI 3)), (0, .ref to), (1, .ref src), (2, .int (nI pos))]) d_Fi_load_48 (by decide) rfl k) ?_
  refine S_iincN (a := (pos + 1 + 1 + 1 + 1 + 1 + 1 + 1 + 1 + 1 + 1 + 1 + 1)) (b := 1) (L' := [(6, .int (nI (pos + 1 + 1 + 1 + 1 + 1 + 1 + 1 + 1 + 1 + 1 + 1 + 1 + 1))), (3, .long z77), (5, .int (nI 19)), (8, .int (nI 25)), (7, .int (nI 3)), (0, .ref to), (1, .ref src), (2, .int (nI pos))]) d_Fi_load_49 (by decide) rfl rfl rfl ?_
  refine S_iincN (a := 19) (b := 8) (L' := [(5, .int (nI 27)), (6, .int (nI (pos + 1 + 1 + 1 + 1 + 1 + 1 + 1 + 1 + 1 + 1 + 1 + 1 + 1))), (3, .long z77), (8, .int (nI 25)), (7, .int (nI 3)), (0, .ref to), (1, .ref src), (2, .int (nI pos))]) d_Fi_load_52 (by decide) rfl rfl rfl ?_
  refine ST.lift (fun _ _ k => T_goto (tgt := 27) d_Fi_load_55 rfl k) ?_
  refine ST.lift (fun _ _ k => T_iload d_Fi_load_27 rfl k) ?_
  refine ST.lift (fun _ _ k => T_iload d_Fi_load_29 rfl k) ?_
  refine S_icmp_geN d_Fi_load_31 rfl (by omega) (by omega) (fun _ => ?_) (fun c => by first | exact absurd c (by omega) | exact c.elim | exact absurd c (by decide) | exact absurd (by assumption) c | exact absurd c (by assumption))
  refine ST.lift (fun _ _ k => T_aload_n (v := .ref to) d_Fi_load_58 rfl (Or.inr ⟨_, rfl⟩) k) ?_
  refine ST.lift (fun _ _ k => T_iload d_Fi_load_59 rfl k) ?_
  refine ST.lift (fun _ _ k => T_lload_n d_Fi_load_61 rfl k) ?_
  refine ST.lift (fun _ _ k => T_lconst (v := 1) d_Fi_load_62 (by decide) k) ?_
  refine ST.lift (fun _ _ k => T_iload d_Fi_load_63 rfl k) ?_
  refine ST.lift (fun _ _ k => T_lshl d_Fi_load_65 k) (S_anyl fun z78 => ?_)
  refine ST.lift (fun _ _ k => T_lconst (v := 1) d_Fi_load_66 (by decide) k) ?_
  refine ST.lift (fun _ _ k => T_lsub d_Fi_load_67 k) (S_anyl fun z79 => ?_)
  refine ST.lift (fun _ _ k => T_land d_Fi_load_68 k) (S_anyl fun z80 => ?_)
  refine S_lastore d_Fi_load_69 w_to a_to (vp_in_nI (by omega) (by omega)) ?_
  refine ST.lift (fun _ _ k => T_lload_n d_Fi_load_70 rfl k) ?_
  refine ST.lift (fun _ _ k => T_iload d_Fi_load_71 rfl k) ?_
  refine ST.lift (fun _ _ k => T_lshr d_Fi_load_73 k) (S_anyl fun z81 => ?_)
  refine ST.lift (fun _ _ k => T_lstore_n (L' := [(3, .long z81), (5, .int (nI 27)), (6, .int (nI (pos + 1 + 1 + 1 + 1 + 1 + 1 + 1 + 1 + 1 + 1 + 1 + 1 + 1))), (8, .int (nI 25)), (7, .int (nI 3)), (0, .ref to), (1, .ref src), (2, .int (nI pos))]) d_Fi_load_74 (by decide) rfl k) ?_
  refine ST.lift (fun _ _ k => T_iload d_Fi_load_75 rfl k) ?_
  refine ST.lift (fun _ _ k => T_iload d_Fi_load_77 rfl k) ?_
  refine S_isubN d_Fi_load_79 (by omega) ?_
  refine S_topi (y := nI 2) (by decide) ?_
  refine ST.lift (fun _ _ k => T_istore (L' := [(5, .int (nI 2)), (3, .long z81), (6, .int (nI (pos + 1 + 1 + 1 + 1 + 1 + 1 + 1 + 1 + 1 + 1 + 1 + 1 + 1))), (8, .int (nI 25)), (7, .int (nI 3)), (0, .ref to), (1, .ref src), (2, .int (nI pos))]) d_Fi_load_80 (by decide) rfl k) ?_
  refine S_iincN (a := 3) (b := 1) (L' := [(7, .int (nI 4)), (5, .int (nI 2)), (3, .long z81), (6, .int (nI (pos + 1 + 1 + 1 + 1 + 1 + 1 + 1 + 1 + 1 + 1 + 1 + 1 + 1))), (8, .int (nI 25)), (0, .ref to), (1, .ref src), (2, .int (nI pos))]) d_Fi_load_82 (by decide) rfl rfl rfl ?_
  refine ST.lift (fun _ _ k => T_goto (tgt := 11) d_Fi_load_85 rfl k) ?_
  refine ST.lift (fun _ _ k => T_iload d_Fi_load_11 rfl k) ?_
  refine ST.lift (fun _ _ k => T_bipush (v := nI 10) d_Fi_load_13 (by decide) k) ?_
  refine S_icmp_geN d_Fi_load_15 rfl (by omega) (by omega) (fun c => by first | exact absurd c (by omega) | exact c.elim | exact absurd c (by decide) | exact absurd (by assumption) c | exact absurd c (by assumption)) (fun _ => ?_)
  refine ST.lift (fun _ _ k => T_bipush (v := nI 26) d_Fi_load_18 (by decide) k) ?_
  refine ST.lift (fun _ _ k => T_iload d_Fi_load_20 rfl k) ?_
  refine ST.lift (fun _ _ k => T_iconst (v := nI 1) d_Fi_load_22 (by decide) k) ?_
  refine S_iandN 1 d_Fi_load_23 (by omega) (by decide) (by decide) ?_
  refine S_topi (y := nI 0) (by decide) ?_
  refine S_isubN d_Fi_load_24 (by omega) ?_
  refine S_topi (y := nI 26) (by decide) ?_
  refine ST.lift (fun _ _ k => T_istore (L' := [(8, .int (nI 26)), (7, .int (nI 4)), (5, .int (nI 2)), (3, .long z81), (6, .int (nI (pos + 1 + 1 + 1 + 1 + 1 + 1 + 1 + 1 + 1 + 1 + 1 + 1 + 1))), (0, .ref to), (1, .ref src), (2, .int (nI pos))]) d_Fi_load_25 (by decide) rfl k) ?_
  refine ST.lift (fun _ _ k => T_iload d_Fi_load_27 rfl k) ?_
  refine ST.lift (fun _ _ k => T_iload d_Fi_load_29 rfl k) ?_
  refine S_icmp_geN d_Fi_load_31 rfl (by omega) (by omega) (fun c => by first | exact absurd c (by omega) | exact c.elim | exact absurd c (by decide) | exact absurd (by assumption) c | exact absurd c (by assumption)) (fun _ => ?_)
  refine ST.lift (fun _ _ k => T_lload_n d_Fi_load_34 rfl k) ?_
  refine ST.lift (fun _ _ k => T_aload_n (v := .ref src) d_Fi_load_35 rfl (Or.inr ⟨_, rfl⟩) k) ?_
  refine ST.lift (fun _ _ k => T_iload d_Fi_load_36 rfl k) ?_
  refine S_baload d_Fi_load_38 a_src (vp_in_nI (by omega) (by omega)) (fun z82 hz82 => ?_)
  refine ST.lift (fun _ _ k => T_i2l d_Fi_load_39 k) (S_anyl fun z83 => ?_)
  refine ST.lift (fun _ _ k => T_ldc2 d_Fi_load_40 kJ_Fi_41 k) ?_
  refine ST.lift (fun _ _ k => T_land d_Fi_load_43 k) (S_anyl fun z84 => ?_)
  refine ST.lift (fun _ _ k => T_iload d_Fi_load_44 rfl k) ?_
  refine ST.lift (fun _ _ k => T_lshl d_Fi_load_46 k) (S_anyl fun z85 => ?_)
  refine ST.lift (fun _ _ k => T_lor d_Fi_load_47 k) (S_anyl fun z86 => ?_)
  refine ST.lift (fun _ _ k => T_lstore_n (L' := [(3, .long z86), (8, .int (nI 26)), (7, .int (nI 4)), (5, .int (nI 2)), (6, .int (nI (pos + 1 + 1 + 1 + 1 + 1 + 1 + 1 + 1 + 1 + 1 + 1 + 1 + 1))), (0, .ref to), (1, .ref src), (2, .int (nI pos))]) d_Fi_load_48 (by decide) rfl k) ?_
  refine S_iincN (a := (pos + 1 + 1 + 1 + 1 + 1 + 1 + 1 + 1 + 1 + 1 + 1 + 1 + 1)) (b := 1) (L' := [(6, .int (nI (pos + 1 + 1 + 1 + 1 + 1 + 1 + 1 + 1 + 1 + 1 + 1 + 1 + 1 + 1))), (3, .long z86), (8, .int (nI 26)), (7, .int (nI 4)), (5, .int (nI 2)), (0, .ref to), (1, .ref src), (2, .int (nI pos))]) d_Fi_load_49 (by decide) rfl rfl rfl ?_
  refine S_iincN (a := 2) (b := 8) (L' := [(5, .int (nI 10)), (6, .int (nI (pos + 1 + 1 + 1 + 1 + 1 + 1 + 1 + 1 + 1 + 1 + 1 + 1 + 1 + 1))), (3, .long z86), (8, .int (nI 26)), (7, .int (nI 4)), (0, .ref to), (1, .ref src), (2, .int (nI pos))]) d_Fi_load_52 (by decide) rfl rfl rfl ?_
  refine ST.lift (fun _ _ k => T_goto (tgt := 27) d_Fi_load_55 rfl k) ?_
  refine ST.lift (fun _ _ k => T_iload d_Fi_load_27 rfl k) ?_
  refine ST.lift (fun _ _ k => T_iload d_Fi_load_29 rfl k) ?_
  refine S_icmp_geN d_Fi_load_31 rfl (by omega) (by omega) (fun c => by first | exact absurd c (by omega) | exact c.elim | exact absurd c (by decide) | exact absurd (by assumption) c | exact absurd c (by assumption)) (fun _ => ?_)
  refine ST.lift (fun _ _ k => T_lload_n d_Fi_load_34 rfl k) ?_
  refine ST.lift (fun _ _ k => T_aload_n (v := .ref src) d_Fi_load_35 rfl (Or.inr ⟨_, rfl⟩) k) ?_
  refine ST.lift (fun _ _ k => T_iload d_Fi_load_36 rfl k) ?_
  refine S_baload d_Fi_load_38 a_src (vp_in_nI (by omega) (by omega)) (fun z87 hz87 => ?_)
  refine ST.lift (fun _ _ k => T_i2l d_Fi_load_39 k) (S_anyl fun z88 => ?_)
  refine ST.lift (fun _ _ k => T_ldc2 d_Fi_load_40 kJ_Fi_41 k) ?_
  refine ST.lift (fun _ _ k => T_land d_Fi_load_43 k) (S_anyl fun z89 => ?_)
  refine ST.lift (fun _ _ k => T_iload d_Fi_load_44 rfl k) ?_
  refine ST.lift (fun _ _ k => T_lshl d_Fi_load_46 k) (S_anyl fun z90 => ?_)
  refine ST.lift (fun _ _ k => T_lor d_Fi_load_47 k) (S_anyl fun z91 => ?_)
  refine ST.lift (fun _ _ k => T_lstore_n (L' := [(3, .long z91), (5, .int (nI 10)), (6, .int (nI (pos + 1 + 1 + 1 + 1 + 1 + 1 + 1 + 1 + 1 + 1 + 1 + 1 + 1 + 1))), (8, .int (nI 26)), (7, .int (nI 4)), (0, .ref to), (1, .ref src), (2, .int (nI pos))]) d_Fi_load_48 (by decide) rfl k) ?_
  refine S_iincN (a := (pos + 1 + 1 + 1 + 1 + 1 + 1 + 1 + 1 + 1 + 1 + 1 + 1 + 1 + 1)) (b := 1) (L' := [(6, .int (nI (pos + 1 + 1 + 1 + 1 + 1 + 1 + 1 + 1 + 1 + 1 + 1 + 1 + 1 + 1 + 1))), (3, .long z91), (5, .int (nI 10)), (8, .int (nI 26)), (7, .int (nI 4)), (0, .ref to), (1, .ref src), (2, .int (nI pos))]) d_Fi_load_49 (by decide) rfl rfl rfl ?_
  refine S_iincN (a := 10) (b := 8) (L' := [(5, .int (nI 18)), (6, .int (nI (pos + 1 + 1 + 1 + 1 + 1 + 1 + 1 + 1 + 1 + 1 + 1 + 1 + 1 + 1 + 1))), (3, .long z91), (8, .int (nI 26)), (7, .int (nI 4)), (0, .ref to), (1, .ref src), (2, .int (nI pos))]) d_Fi_load_52 (by decide) rfl rfl rfl ?_
  refine ST.lift (fun _ _ k => T_goto (tgt := 27) d_Fi_load_55 rfl k) ?_
  refine ST.lift (fun _ _ k => T_iload d_Fi_load_27 rfl k) ?_
  refine ST.lift (fun _ _ k => T_iload d_Fi_load_29 rfl k) ?_
  refine S_icmp_geN d_Fi_load_31 rfl (by omega) (by omega) (fun c => by first | exact absurd c (by omega) | exact c.elim | exact absurd c (by decide) | exact absurd (by assumption) c | exact absurd c (by assumption)) (fun _ => ?_)
  refine ST.lift (fun _ _ k => T_lload_n d_Fi_load_34 rfl k) ?_
  refine ST.lift (fun _ _ k => T_aload_n (v := .ref src) d_Fi_load_35 rfl (Or.inr ⟨_, rfl⟩) k) ?_
  refine ST.lift (fun _ _ k => T_iload d_Fi_load_36 rfl k) ?_
  refine S_baload d_Fi_load_38 a_src (vp_in_nI (by omega) (by omega)) (fun z92 hz92 => ?_)
  refine ST.lift (fun _ _ k => T_i2l d_Fi_load_39 k) (S_anyl fun z93 => ?_)
  refine ST.lift (fun _ _ k => T_ldc2 d_Fi_load_40 kJ_Fi_41 k) ?_
  refine ST.lift (fun _ _ k => T_land d_Fi_load_43 k) (S_anyl fun z94 => ?_)
  refine ST.lift (fun _ _ k => T_iload d_Fi_load_44 rfl k) ?_
  refine ST.lift (fun _ _ k => T_lshl d_Fi_load_46 k) (S_anyl fun z95 => ?_)
  refine ST.lift (fun _ _ k => T_lor d_Fi_load_47 k) (S_anyl fun z96 => ?_)
  refine ST.lift (fun _ _ k => T_lstore_n (L' := [(3, .long z96), (5, .int (nI 18)), (6, .int (nI (pos + 1 + 1 + 1 + 1 + 1 + 1 + 1 + 1 + 1 + 1 + 1 + 1 + 1 + 1 + 1))), (8, .int (nI 26)), (7, .int (nI 4)), (0, .ref to), (1, .ref src), (2, .int (nI pos))]) d_Fi_load_48 (by decide) rfl k) ?_
  refine S_iincN (a := (pos + 1 + 1 + 1 + 1 + 1 + 1 + 1 + 1 + 1 + 1 + 1 + 1 + 1 + 1 + 1)) (b := 1) (L' := [(6, .int (nI (pos + 1 + 1 + 1 + 1 + 1 + 1 + 1 + 1 + 1 + 1 + 1 + 1 + 1 + 1 + 1 + 1))), (3, .long z96), (5, .int (nI 18)), (8, .int (nI 26)), (7, .int (nI 4)), (0, .ref to), (1, .ref src), (2, .int (nI pos))]) d_Fi_load_49 (by decide) rfl rfl rfl ?_
  refine S_iincN (a := 18) (b := 8) (L' := [(5, .int (nI 26)), (6, .int (nI (pos + 1 + 1 + 1 + 1 + 1 + 1 + 1 + 1 + 1 + 1 + 1 + 1 + 1 + 1 + 1 + 1))), (3, .long z96), (8, .int (nI 26)), (7, .int (nI 4)), (0, .ref to), (1, .ref src), (2, .int (nI pos))]) d_Fi_load_52 (by decide) rfl rfl rfl ?_
  refine ST.lift (fun _ _ k => T_goto (tgt := 27) d_Fi_load_55 rfl k) ?_
  refine ST.lift (fun _ _ k => T_iload d_Fi_load_27 rfl k) ?_
  refine ST.lift (fun _ _ k => T_iload d_Fi_load_29 rfl k) ?_
  refine S_icmp_geN d_Fi_load_31 rfl (by omega) (by omega) (fun _ => ?_) (fun c => by first | exact absurd c (by omega) | exact c.elim | exact absurd c (by decide) | exact absurd (by assumption) c | exact absurd c (by assumption))
  refine ST.lift (fun _ _ k => T_aload_n (v := .ref to) d_Fi_load_58 rfl (Or.inr ⟨_, rfl⟩) k) ?_
  refine ST.lift (fun _ _ k => T_iload d_Fi_load_59 rfl k) ?_
  refine ST.lift (fun _ _ k => T_lload_n d_Fi_load_61 rfl k) ?_
  refine ST.lift (fun _ _ k => T_lconst (v := 1) d_Fi_load_62 (by decide) k) ?_
  refine ST.lift (fun _ _ k => T_iload d_Fi_load_63 rfl k) ?_
  refine ST.lift (fun _ _ k => T_lshl d_Fi_load_65 k) (S_anyl fun z97 => ?_)
  refine ST.lift (fun _ _ k => T_lconst (v := 1) d_Fi_load_66 (by decide) k) ?_
  refine ST.lift (fun _ _ k => T_lsub d_Fi_load_67 k) (S_anyl fun z98 => ?_)
  refine ST.lift (fun _ _ k => T_land d_Fi_load_68 k) (S_anyl fun z99 => ?_)
  refine S_lastore d_Fi_load_69 w_to a_to (vp_in_nI (by omega) (by omega)) ?_
  refine ST.lift (fun _ _ k => T_lload_n d_Fi_load_70 rfl k) ?_
  refine ST.lift (fun _ _ k => T_iload d_Fi_load_71 rfl k) ?_
  refine ST.lift (fun _ _ k => T_lshr d_Fi_load_73 k) (S_anyl fun z100 => ?_)
  refine ST.lift (fun _ _ k => T_lstore_n (L' := [(3, .long z100), (5, .int (nI 26)), (6, .int (nI (pos + 1 + 1 + 1 + 1 + 1 + 1 + 1 + 1 + 1 + 1 + 1 + 1 + 1 + 1 + 1 + 1))), (8, .int (nI 26)), (7, .int (nI 4)), (0, .ref to), (1, .ref src), (2, .int (nI pos))]) d_Fi_load_74 (by decide) rfl k) ?_
  refine ST.lift (fun _ _ k => T_iload d_Fi_load_75 rfl k) ?_
  refine ST.lift (fun _ _ k => T_iload d_Fi_load_77 rfl k) ?_
  refine S_isubN d_Fi_load_79 (by omega) ?_
  refine S_topi (y := nI 0) (by decide) ?_
  refine ST.lift (fun _ _ k => T_istore (L' := [(5, .int (nI 0)), (3, .long z100), (6, .int (nI (pos + 1 + 1 + 1 + 1 + 1 + 1 + 1 + 1 + 1 + 1 + 1 + 1 + 1 + 1 + 1 + 1))), (8, .int (nI 26)), (7, .int (nI 4)), (0, .ref to), (1, .ref src), (2, .int (nI pos))]) d_Fi_load_80 (by decide) rfl k) ?_
  refine S_iincN (a := 4) (b := 1) (L' := [(7, .int (nI 5)), (5, .int (nI 0)), (3, .long z100), (6, .int (nI (pos + 1 + 1 + 1 + 1 + 1 + 1 + 1 + 1 + 1 + 1 + 1 + 1 + 1 + 1 + 1 + 1))), (8, .int (nI 26)), (0, .ref to), (1, .ref src), (2, .int (nI pos))]) d_Fi_load_82 (by decide) rfl rfl rfl ?_
  refine ST.lift (fun _ _ k => T_goto (tgt := 11) d_Fi_load_85 rfl k) ?_
  refine ST.lift (fun _ _ k => T_iload d_Fi_load_11 rfl k) ?_
  refine ST.lift (fun _ _ k => T_bipush (v := nI 10) d_Fi_load_13 (by decide) k) ?_
  refine S_icmp_geN d_Fi_load_15 rfl (by omega) (by omega) (fun c => by first | exact absurd c (by omega) | exact c.elim | exact absurd c (by decide) | exact absurd (by assumption) c | exact absurd c (by assumption)) (fun _ => ?_)
  refine ST.lift (fun _ _ k => T_bipush (v := nI 26) d_Fi_load_18 (by decide) k) ?_
  refine ST.lift (fun _ _ k => T_iload d_Fi_load_20 rfl k) ?_
  refine ST.lift (fun _ _ k => T_iconst (v := nI 1) d_Fi_load_22 (by decide) k) ?_
  refine S_iandN 1 d_Fi_load_23 (by omega) (by decide) (by decide) ?_
  refine S_topi (y := nI 1) (by decide) ?_
  refine S_isubN d_Fi_load_24 (by omega) ?_
  refine S_topi (y := nI 25) (by decide) ?_
  refine ST.lift (fun _ _ k => T_istore (L' := [(8, .int (nI 25)), (7, .int (nI 5)), (5, .int (nI 0)), (3, .long z100), (6, .int (nI (pos + 1 + 1 + 1 + 1 + 1 + 1 + 1 + 1 + 1 + 1 + 1 + 1 + 1 + 1 + 1 + 1))), (0, .ref to), (1, .ref src), (2, .int (nI pos))]) d_Fi_load_25 (by decide) rfl k) ?_
  refine ST.lift (fun _ _ k => T_iload d_Fi_load_27 rfl k) ?_
  refine ST.lift (fun _ _ k => T_iload d_Fi_load_29 rfl k) ?_
  refine S_icmp_geN d_Fi_load_31 rfl (by omega) (by omega) (fun c => by first | exact absurd c (by omega) | exact c.elim | exact absurd c (by decide) | exact absurd (by assumption) c | exact absurd c (by assumption)) (fun _ => ?_)
  refine ST.lift (fun _ _ k => T_lload_n d_Fi_load_34 rfl k) ?_
  refine ST.lift (fun _ _ k => T_aload_n (v := .ref src) d_Fi_load_35 rfl (Or.inr ⟨_, rfl⟩) k) ?_
  refine ST.lift (fun _ _ k => T_iload d_Fi_load_36 rfl k) ?_
  refine S_baload d_Fi_load_38 a_src (vp_in_nI (by omega) (by omega)) (fun z101 hz101 => ?_)
  refine ST.lift (fun _ _ k => T_i2l d_Fi_load_39 k) (S_anyl fun z102 => ?_)
  refine ST.lift (fun _ _ k => T_ldc2 d_Fi_load_40 kJ_Fi_41 k) ?_
  refine ST.lift (fun _ _ k => T_land d_Fi_load_43 k) (S_anyl fun z103 => ?_)
  refine ST.lift (fun _ _ k => T_iload d_Fi_load_44 rfl k) ?_
  refine ST.lift (fun _ _ k => T_lshl d_Fi_load_46 k) (S_anyl fun z104 => ?_)
  refine ST.lift (fun _ _ k => T_lor d_Fi_load_47 k) (S_anyl fun z105 => ?_)
  refine ST.lift (fun _ _ k => T_lstore_n (L' := [(3, .long z105), (8, .int (nI 25)), (7, .int (nI 5)), (5, .int (nI 0)), (6, .int (nI (pos + 1 + 1 + 1 + 1 + 1 + 1 + 1 + 1 + 1 + 1 + 1 + 1 + 1 + 1 + 1 + 1))), (0, .ref to), (1, .ref src), (2, .int (nI pos))]) d_Fi_load_48 (by decide) rfl k) ?_
  refine S_iincN (a := (pos + 1 + 1 + 1 + 1 + 1 + 1 + 1 + 1 + 1 + 1 + 1 + 1 + 1 + 1 + 1 + 1)) (b := 1) (L' := [(6, .int (nI (pos + 1 + 1 + 1 + 1 + 1 + 1 + 1 + 1 + 1 + 1 + 1 + 1 + 1 + 1 + 1 + 1 + 1))), (3, .long z105), (8, .int (nI 25)), (7, .int (nI 5)), (5, .int (nI 0)), (0, .ref to), (1, .ref src), (2, .int (nI pos))]) d_Fi_load_49 (by decide) rfl rfl rfl ?_
  refine S_iincN (a := 0) (b := 8) (L' := [(5, .int (nI 8)), (6, .int (nI (pos + 1 + 1 + 1 + 1 + 1 + 1 + 1 + 1 + 1 + 1 + 1 + 1 + 1 + 1 + 1 + 1 + 1))), (3, .long z105), (8, .int (nI 25)), (7, .int (nI 5)), (0, .ref to), (1, .ref src), (2, .int (nI pos))]) d_Fi_load_52 (by decide) rfl rfl rfl ?_
  refine ST.lift (fun _ _ k => T_goto (tgt := 27) d_Fi_load_55 rfl k) ?_
  refine ST.lift (fun _ _ k => T_iload d_Fi_load_27 rfl k) ?_
  refine ST.lift (fun _ _ k => T_iload d_Fi_load_29 rfl k) ?_
  refine S_icmp_geN d_Fi_load_31 rfl (by omega) (by omega) (fun c => by first | exact absurd c (by omega) | exact c.elim | exact absurd c (by decide) | exact absurd (by assumption) c | exact absurd c (by assumption)) (fun _ => ?_)
  refine ST.lift (fun _ _ k => T_lload_n d_Fi_load_34 rfl k) ?_
  refine ST.lift (fun _ _ k => T_aload_n (v := .ref src) d_Fi_load_35 rfl (Or.inr ⟨_, rfl⟩) k) ?_
  refine ST.lift (fun _ _ k => T_iload d_Fi_load_36 rfl k) ?_
  refine S_baload d_Fi_load_38 a_src (vp_in_nI (by omega) (by omega)) (fun z106 hz106 => ?_)
  refine ST.lift (fun _ _ k => T_i2l d_Fi_load_39 k) (S_anyl fun z107 => ?_)
  refine ST.lift (fun _ _ k => T_ldc2 d_Fi_load_40 kJ_Fi_41 k) ?_
  refine ST.lift (fun _ _ k => T_land d_Fi_load_43 k) (S_anyl fun z108 => ?_)
  refine ST.lift (fun _ _ k => T_iload d_Fi_load_44 rfl k) ?_
  refine ST.lift (fun _ _ k => T_lshl d_Fi_load_46 k) (S_anyl fun z109 => ?_)
  refine ST.lift (fun _ _ k => T_lor d_Fi_load_47 k) (S_anyl fun z110 => ?_)
  refine ST.lift (fun _ _ k => T_lstore_n (L' := [(3, .long z110), (5, .int (nI 8)), (6, .int (nI (pos + 1 + 1 + 1 + 1 + 1 + 1 + 1 + 1 + 1 + 1 + 1 + 1 + 1 + 1 + 1 + 1 + 1))), (8, .int (nI 25)), (7, .int (nI 5)), (0, .ref to), (1, .ref src), (2, .int (nI pos))]) d_Fi_load_48 (by decide) rfl k) ?_
  refine S_iincN (a := (pos + 1 + 1 + 1 + 1 + 1 + 1 + 1 + 1 + 1 + 1 + 1 + 1 + 1 + 1 + 1 + 1 + 1)) (b := 1) (L' := [(6, .int (nI (pos + 1 + 1 + 1 + 1 + 1 + 1 + 1 + 1 + 1 + 1 + 1 + 1 + 1 + 1 + 1 + 1 + 1 + 1))), (3, .long z110), (5, .int (nI 8)), (8, .int (nI 25)), (7, .int (nI 5)), (0, .ref to), (1, .ref src), (2, .int (nI pos))]) d_Fi_load_49 (by decide) rfl rfl rfl ?_
  refine S_iincN (a := 8) (b := 8) (L' := [(5, .int (nI 16)), (6, .int (nI (pos + 1 + 1 + 1 + 1 + 1 + 1 + 1 + 1 + 1 + 1 + 1 + 1 + 1 + 1 + 1 + 1 + 1 + 1))), (3, .long z110), (8, .int (nI 25)), (7, .int (nI 5)), (0, .ref to), (1, .ref src), (2, .int (nI pos))]) d_Fi_load_52 (by decide) rfl rfl rfl ?_
  refine ST.lift (fun _ _ k => T_goto (tgt := 27) d_Fi_load_55 rfl k) ?_
  refine ST.lift (fun _ _ k => T_iload d_Fi_load_27 rfl k) ?_
  refine ST.lift (fun _ _ k => T_iload d_Fi_load_29 rfl k) ?_
  refine S_icmp_geN d_Fi_load_31 rfl (by omega) (by omega) (fun c => by first | exact absurd c (by omega) | exact c.elim | exact absurd c (by decide) | exact absurd (by assumption) c | exact absurd c (by assumption)) (fun _ => ?_)
  refine ST.lift (fun _ _ k => T_lload_n d_Fi_load_34 rfl k) ?_
  refine ST.lift (fun _ _ k => T_aload_n (v := .ref src) d_Fi_load_35 rfl (Or.inr ⟨_, rfl⟩) k) ?_
  refine ST.lift (fun _ _ k => T_iload d_Fi_load_36 rfl k) ?_
  refine S_baload d_Fi_load_38 a_src (vp_in_nI (by omega) (by omega)) (fun z111 hz111 => ?_)
  refine ST.lift (fun _ _ k => T_i2l d_Fi_load_39 k) (S_anyl fun z112 => ?_)
  refine ST.lift (fun _ _ k => T_ldc2 d_Fi_load_40 kJ_Fi_41 k) ?_
  refine ST.lift (fun _ _ k => T_land d_Fi_load_43 k) (S_anyl fun z113 => ?_)
  refine ST.lift (fun _ _ k => T_iload d_Fi_load_44 rfl k) ?_
  refine ST.lift (fun _ _ k => T_lshl d_Fi_load_46 k) (S_anyl fun z114 => ?_)
  refine ST.lift (fun _ _ k => T_lor d_Fi_load_47 k) (S_anyl fun z115 => ?_)
  refine ST.lift (fun _ _ k => T_lstore_n (L' := [(3, .long z115), (5, .int (nI 16)), (6, .int (nI (pos + 1 + 1 + 1 + 1 + 1 + 1 + 1 + 1 + 1 + 1 + 1 + 1 + 1 + 1 + 1 + 1 + 1 + 1))), (8, .int (nI 25)), (7, .int (nI 5)), (0, .ref to), (1, .ref src), (2, .int (nI pos))]) d_Fi_load_48 (by decide) rfl k) ?_
  refine S_iincN (a := (pos + 1 + 1 + 1 + 1 + 1 + 1 + 1 + 1 + 1 + 1 + 1 + 1 + 1 + 1 + 1 + 1 + 1 + 1)) (b := 1) (L' := [(6, .int (nI (pos + 1 + 1 + 1 + 1 + 1 + 1 + 1 + 1 + 1 + 1 + 1 + 1 + 1 + 1 + 1 + 1 + 1 + 1 + 1))), (3, .long z115), (5, .int (nI 16)), (8, .int (nI 25)), (7, .int (nI 5)), (0, .ref to), (1, .ref src), (2, .int (nI pos))]) d_Fi_load_49 (by decide) rfl rfl rfl ?_
  refine S_iincN (a := 16) (b := 8) (L' := [(5, .int (nI 24)), (6, .int (nI (pos + 1 + 1 + 1 + 1 + 1 + 1 + 1 + 1 + 1 + 1 + 1 + 1 + 1 + 1 + 1 + 1 + 1 + 1 + 1))), (3, .long z115), (8, .int (nI 25)), (7, .int (nI 5)), (0, .ref to), (1, .ref src), (2, .int (nI pos))]) d_Fi_load_52 (by decide) rfl rfl rfl ?_
  refine ST.lift (fun _ _ k => T_goto (tgt := 27) d_Fi_load_55 rfl k) ?_
  refine ST.lift (fun _ _ k => T_iload d_Fi_load_27 rfl k) ?_
  refine ST.lift (fun _ _ k => T_iload d_Fi_load_29 rfl k) ?_
  refine S_icmp_geN d_Fi_load_31 rfl (by omega) (by omega) (fun c => by first | exact absurd c (by omega) | exact c.elim | exact absurd c (by decide) | exact absurd (by assumption) c | exact absurd c (by assumption)) (fun _ => ?_)
  refine ST.lift (fun _ _ k => T_lload_n d_Fi_load_34 rfl k) ?_
  refine ST.lift (fun _ _ k => T_aload_n (v := .ref src) d_Fi_load_35 rfl (Or.inr ⟨_, rfl⟩) k) ?_
  refine ST.lift (fun _ _ k => T_iload d_Fi_load_36 rfl k) ?_
  refine S_baload d_Fi_load_38 a_src (vp_in_nI (by omega) (by omega)) (fun z116 hz116 => ?_)
  refine ST.lift (fun _ _ k => T_i2l d_Fi_load_39 k) (S_anyl fun z117 => ?_)
  refine ST.lift (fun _ _ k => T_ldc2 d_Fi_load_40 kJ_Fi_41 k) ?_
  refine ST.lift (fun _ _ k => T_land d_Fi_load_43 k) (S_anyl fun z118 => ?_)
  refine ST.lift (fun _ _ k => T_iload d_Fi_load_44 rfl k) ?_
  refine ST.lift (fun _ _ k => T_lshl d_Fi_load_46 k) (S_anyl fun z119 => ?_)
  refine ST.lift (fun _ _ k => T_lor d_Fi_load_47 k) (S_anyl fun z120 => ?_)
  refine ST.lift (fun _ _ k => T_lstore_n (L' := [(3, .long z120), (5, .int (nI 24)), (6, .int (nI (pos + 1 + 1 + 1 + 1 + 1 + 1 + 1 + 1 + 1 + 1 + 1 + 1 + 1 + 1 + 1 + 1 + 1 + 1 + 1))), (8, .int (nI 25)), (7, .int (nI 5)), (0, .ref to), (1, .ref src), (2, .int (nI pos))]) d_Fi_load_48 (by decide) rfl k) ?_
  refine S_iincN (a := (pos + 1 + 1 + 1 + 1 + 1 + 1 + 1 + 1 + 1 + 1 + 1 + 1 + 1 + 1 + 1 + 1 + 1 + 1 + 1)) (b := 1) (L' := [(6, .int (nI (pos + 1 + 1 + 1 + 1 + 1 + 1 + 1 + 1 + 1 + 1 + 1 + 1 + 1 + 1 + 1 + 1 + 1 + 1 + 1 + 1))), (3, .long z120), (5, .int (nI 24)), (8, .int (nI 25)), (7, .int (nI 5)), (0, .ref to), (1, .ref src), (2, .int (nI pos))]) d_Fi_load_49 (by decide) rfl rfl rfl ?_
  refine S_iincN (a := 24) (b := 8) (L' := [(5, .int (nI 32)), (6, .int (nI (pos + 1 + 1 + 1 + 1 + 1 + 1 + 1 + 1 + 1 + 1 + 1 + 1 + 1 + 1 + 1 + 1 + 1 + 1 + 1 + 1))), (3, .long z120), (8, .int (nI 25)), (7, .int (nI 5)), (0, .ref to), (1, .ref src), (2, .int (nI pos))]) d_Fi_load_52 (by decide) rfl rfl rfl ?_
  refine ST.lift (fun _ _ k => T_goto (tgt := 27) d_Fi_load_55 rfl k) ?_
  refine ST.lift (fun _ _ k => T_iload d_Fi_load_27 rfl k) ?_
  refine ST.lift (fun _ _ k => T_iload d_Fi_load_29 rfl k) ?_
  refine S_icmp_geN d_Fi_load_31 rfl (by omega) (by omega) (fun _ => ?_) (fun c => by first | exact absurd c (by omega) | exact c.elim | exact absurd c (by decide) | exact absurd (by assumption) c | exact absurd c (by assumption))
  refine ST.lift (fun _ _ k => T_aload_n (v := .ref to) d_Fi_load_58 rfl (Or.inr ⟨_, rfl⟩) k) ?_
  refine ST.lift (fun _ _ k => T_iload d_Fi_load_59 rfl k) ?_
  refine ST.lift (fun _ _ k => T_lload_n d_Fi_load_61 rfl k) ?_
  refine ST.lift (fun _ _ k => T_lconst (v := 1) d_Fi_load_62 (by decide) k) ?_
  refine ST.lift (fun _ _ k => T_iload d_Fi_load_63 rfl k) ?_
  refine ST.lift (fun _ _ k => T_lshl d_Fi_load_65 k) (S_anyl fun z121 => ?_)
  refine ST.lift (fun _ _ k => T_lconst (v := 1) d_Fi_load_66 (by decide) k) ?_
  refine ST.lift (fun _ _ k => T_lsub d_Fi_load_67 k) (S_anyl fun z122 => ?_)
  refine ST.lift (fun _ _ k => T_land d_Fi_load_68 k) (S_anyl fun z123 => ?_)
  refine S_lastore d_Fi_load_69 w_to a_to (vp_in_nI (by omega) (by omega)) ?_
  refine ST.lift (fun _ _ k => T_lload_n d_Fi_load_70 rfl k) ?_
  refine ST.lift (fun _ _ k => T_iload d_Fi_load_71 rfl k) ?_
  refine ST.lift (fun _ _ k => T_lshr d_Fi_load_73 k) (S_anyl fun z124 => ?_)
  refine ST.lift (fun _ _ k => T_lstore_n (L' := [(3, .long z124), (5, .int (nI 32)), (6, .int (nI (pos + 1 + 1 + 1 + 1 + 1 + 1 + 1 + 1 + 1 + 1 + 1 + 1 + 1 + 1 + 1 + 1 + 1 + 1 + 1 + 1))), (8, .int (nI 25)), (7, .int (nI 5)), (0, .ref to), (1, .ref src), (2, .int (nI pos))]) d_Fi_load_74 (by decide) rfl k) ?_
  refine ST.lift (fun _ _ k => T_iload d_Fi_load_75 rfl k) ?_
  refine ST.lift (fun _ _ k => T_iload d_Fi_load_77 rfl k) ?_
  refine S_isubN d_Fi_load_79 (by omega) ?_
  refine S_topi (y := nI 7) (by decide) ?_
  refine ST.lift (fun _ _ k => T_istore (L' := [(5, .int (nI 7)), (3, .long z124), (6, .int (nI (pos + 1 + 1 + 1 + 1 + 1 + 1 + 1 + 1 + 1 + 1 + 1 + 1 + 1 + 1 + 1 + 1 + 1 + 1 + 1 + 1))), (8, .int (nI 25)), (7, .int (nI 5)), (0, .ref to), (1, .ref src), (2, .int (nI pos))]) d_Fi_load_80 (by decide) rfl k) ?_
  refine S_iincN (a := 5) (b := 1) (L' := [(7, .int (nI 6)), (5, .int (nI 7)), (3, .long z124), (6, .int (nI (pos + 1 + 1 + 1 + 1 + 1 + 1 + 1 + 1 + 1 + 1 + 1 + 1 + 1 + 1 + 1 + 1 + 1 + 1 + 1 + 1))), (8, .int (nI 25)), (0, .ref to), (1, .ref src), (2, .int (nI pos))]) d_Fi_load_82 (by decide) rfl rfl rfl ?_
  refine ST.lift (fun _ _ k => T_goto (tgt := 11) d_Fi_load_85 rfl k) ?_
  refine ST.lift (fun _ _ k => T_iload d_Fi_load_11 rfl k) ?_
  refine ST.lift (fun _ _ k => T_bipush (v := nI 10) d_Fi_load_13 (by decide) k) ?_
  refine S_icmp_geN d_Fi_load_15 rfl (by omega) (by omega) (fun c => by first | exact absurd c (by omega) | exact c.elim | exact absurd c (by decide) | exact absurd (by assumption) c | exact absurd c (by assumption)) (fun _ => ?_)
  refine ST.lift (fun _ _ k => T_bipush (v := nI 26) d_Fi_load_18 (by decide) k) ?_
  refine ST.lift (fun _ _ k => T_iload d_Fi_load_20 rfl k) ?_
  refine ST.lift (fun _ _ k => T_iconst (v := nI 1) d_Fi_load_22 (by decide) k) ?_
  refine S_iandN 1 d_Fi_load_23 (by omega) (by decide) (by decide) ?_
  refine S_topi (y := nI 0) (by decide) ?_
  refine S_isubN d_Fi_load_24 (by omega) ?_
  refine S_topi (y := nI 26) (by decide) ?_
  refine ST.lift (fun _ _ k => T_istore (L' := [(8, .int (nI 26)), (7, .int (nI 6)), (5, .int (nI 7)), (3, .long z124), (6, .int (nI (pos + 1 + 1 + 1 + 1 + 1 + 1 + 1 + 1 + 1 + 1 + 1 + 1 + 1 + 1 + 1 + 1 + 1 + 1 + 1 + 1))), (0, .ref to), (1, .ref src), (2, .int (nI pos))]) d_Fi_load_25 (by decide) rfl k) ?_
  refine ST.lift (fun _ _ k => T_iload d_Fi_load_27 rfl k) ?_
  refine ST.lift (fun _ _ k => T_iload d_Fi_load_29 rfl k) ?_
  refine S_icmp_geN d_Fi_load_31 rfl (by omega) (by omega) (fun c => by first | exact absurd c (by omega) | exact c.elim | exact absurd c (by decide) | exact absurd (by assumption) c | exact absurd c (by assumption)) (fun _ => ?_)
  refine ST.lift (fun _ _ k => T_lload_n d_Fi_load_34 rfl k) ?_
  refine ST.lift (fun _ _ k => T_aload_n (v := .ref src) d_Fi_load_35 rfl (Or.inr ⟨_, rfl⟩) k) ?_
  refine ST.lift (fun _ _ k => T_iload d_Fi_load_36 rfl k) ?_
  refine S_baload d_Fi_load_38 a_src (vp_in_nI (by omega) (by omega)) (fun z125 hz125 => ?_)
  refine ST.lift (fun _ _ k => T_i2l d_Fi_load_39 k) (S_anyl fun z126 => ?_)
  refine ST.lift (fun _ _ k => T_ldc2 d_Fi_load_40 kJ_Fi_41 k) ?_
  refine ST.lift (fun _ _ k => T_land d_Fi_load_43 k) (S_anyl fun z127 => ?_)
  refine ST.lift (fun _ _ k => T_iload d_Fi_load_44 rfl k) ?_
  refine ST.lift (fun _ _ k => T_lshl d_Fi_load_46 k) (S_anyl fun z128 => ?_)
  refine ST.lift (fun _ _ k => T_lor d_Fi_load_47 k) (S_anyl fun z129 => ?_)
  refine ST.lift (fun _ _ k => T_lstore_n (L' := [(3, .long z129), (8, .int (nI 26)), (7, .int (nI 6)), (5, .int (nI 7)), (6, .int (nI (pos + 1 + 1 + 1 + 1 + 1 + 1 + 1 + 1 + 1 + 1 + 1 + 1 + 1 + 1 + 1 + 1 + 1 + 1 + 1 + 1))), (0, .ref to), (1, .ref src), (2, .int (nI pos))]) d_Fi_load_48 (by decide) rfl k) ?_
  refine S_iincN (a := (pos + 1 + 1 + 1 + 1 + 1 + 1 + 1 + 1 + 1 + 1 + 1 + 1 + 1 + 1 + 1 + 1 + 1 + 1 + 1 + 1)) (b := 1) (L' := [(6, .int (nI (pos + 1 + 1 + 1 + 1 + 1 + 1 + 1 + 1 + 1 + 1 + 1 + 1 + 1 + 1 + 1 + 1 + 1 + 1 + 1 + 1 + 1))), (3, .long z129), (8, .int (nI 26)), (7, .int (nI 6)), (5, .int (nI 7)), (0, .ref to), (1, .ref src), (2, .int (nI pos))]) d_Fi_load_49 (by decide) rfl rfl rfl ?_
  refine S_iincN (a := 7) (b := 8) (L' := [(5, .int (nI 15)), (6, .int (nI (pos + 1 + 1 + 1 + 1 + 1 + 1 + 1 + 1 + 1 + 1 + 1 + 1 + 1 + 1 + 1 + 1 + 1 + 1 + 1 + 1 + 1))), (3, .long z129), (8, .int (nI 26)), (7, .int (nI 6)), (0, .ref to), (1, .ref src), (2, .int (nI pos))]) d_Fi_load_52 (by decide) rfl rfl rfl ?_
  refine ST.lift (fun _ _ k => T_goto (tgt := 27) d_Fi_load_55 rfl k) ?_
  refine ST.lift (fun _ _ k => T_iload d_Fi_load_27 rfl k) ?_
  refine ST.lift (fun _ _ k => T_iload d_Fi_load_29 rfl k) ?_
  refine S_icmp_geN d_Fi_load_31 rfl (by omega) (by omega) (fun c => by first | exact absurd c (by omega) | exact c.elim | exact absurd c (by decide) | exact absurd (by assumption) c | exact absurd c (by assumption)) (fun _ => ?_)
  refine ST.lift (fun _ _ k => T_lload_n d_Fi_load_34 rfl k) ?_
  refine ST.lift (fun _ _ k => T_aload_n (v := .ref src) d_Fi_load_35 rfl (Or.inr ⟨_, rfl⟩) k) ?_
  refine ST.lift (fun _ _ k => T_iload d_Fi_load_36 rfl k) ?_
  refine S_baload d_Fi_load_38 a_src (vp_in_nI (by omega) (by omega)) (fun z130 hz130 => ?_)
  refine ST.lift (fun _ _ k => T_i2l d_Fi_load_39 k) (S_anyl fun z131 => ?_)
  refine ST.lift (fun _ _ k => T_ldc2 d_Fi_load_40 kJ_Fi_41 k) ?_
  refine ST.lift (fun _ _ k => T_land d_Fi_load_43 k) (S_anyl fun z132 => ?_)
  refine ST.lift (fun _ _ k => T_iload d_Fi_load_44 rfl k) ?_
  refine ST.lift (fun _ _ k => T_lshl d_Fi_load_46 k) (S_anyl fun z133 => ?_)
  refine ST.lift (fun _ _ k => T_lor d_Fi_load_47 k) (S_anyl fun z134 => ?_)
  refine ST.lift (fun _ _ k => T_lstore_n (L' := [(3, .long z134), (5, .int (nI 15)), (6, .int (nI (pos + 1 + 1 + 1 + 1 + 1 + 1 + 1 + 1 + 1 + 1 + 1 + 1 + 1 + 1 + 1 + 1 + 1 + 1 + 1 + 1 + 1))), (8, .int (nI 26)), (7, .int (nI 6)), (0, .ref to), (1, .ref src), (2, .int (nI pos))]) d_Fi_load_48 (by decide) rfl k) ?_
  refine S_iincN (a := (pos + 1 + 1 + 1 + 1 + 1 + 1 + 1 + 1 + 1 + 1 + 1 + 1 + 1 + 1 + 1 + 1 + 1 + 1 + 1 + 1 + 1)) (b := 1) (L' := [(6, .int (nI (pos + 1 + 1 + 1 + 1 + 1 + 1 + 1 + 1 + 1 + 1 + 1 + 1 + 1 + 1 + 1 + 1 + 1 + 1 + 1 + 1 + 1 + 1))), (3, .long z134), (5, .int (nI 15)), (8, .int (nI 26)), (7, .int (nI 6)), (0, .ref to), (1, .ref src), (2, .int (nI pos))]) d_Fi_load_49 (by decide) rfl rfl rfl ?_
  refine S_iincN (a := 15) (b := 8) (L' := [(5, .int (nI 23)), (6, .int (nI (pos + 1 + 1 + 1 + 1 + 1 + 1 + 1 + 1 + 1 + 1 + 1 + 1 + 1 + 1 + 1 + 1 + 1 + 1 + 1 + 1 + 1 + 1))), (3, .long z134), (8, .int (nI 26)), (7, .int (nI 6)), (0, .ref to), (1, .ref src), (2, .int (nI pos))]) d_Fi_load_52 (by decide) rfl rfl rfl ?_
  refine ST.lift (fun _ _ k => T_goto (tgt := 27) d_Fi_load_55 rfl k) ?_
  refine ST.lift (fun _ _ k => T_iload d_Fi_load_27 rfl k) ?_
  refine ST.lift (fun _ _ k => T_iload d_Fi_load_29 rfl k) ?_
  refine S_icmp_geN d_Fi_load_31 rfl (by omega) (by omega) (fun c => by first | exact absurd c (by omega) | exact c.elim | exact absurd c (by decide) | exact absurd (by assumption) c | exact absurd c (by assumption)) (fun _ => ?_)
  refine ST.lift (fun _ _ k => T_lload_n d_Fi_load_34 rfl k) ?_
  refine ST.lift (fun _ _ k => T_aload_n (v := .ref src) d_Fi_load_35 rfl (Or.inr ⟨_, rfl⟩) k) ?_
  refine ST.lift (fun _ _ k => T_iload d_Fi_load_36 rfl k) ?_
  refine S_baload d_Fi_load_38 a_src (vp_in_nI (by omega) (by omega)) (fun z135 hz135 => ?_)
  refine ST.lift (fun _ _ k => T_i2l d_Fi_load_39 k) (S_anyl fun z136 => ?_)
  refine ST.lift (fun _ _ k => T_ldc2 d_Fi_load_40 kJ_Fi_41 k) ?_
  refine ST.lift (fun _ _ k => T_land d_Fi_load_43 k) (S_anyl fun z137 => ?_)
  refine ST.lift (fun _ _ k => T_iload d_Fi_load_44 rfl k) ?_
  refine ST.lift (fun _ _ k => T_lshl d_Fi_load_46 k) (S_anyl fun z138 => ?_)
  refine ST.lift (fun _ _ k => T_lor d_Fi_load_47 k) (S_anyl fun z139 => ?_)
  refine ST.lift (fun _ _ k => T_lstore_n (L' := [(3, .long z139), (5, .int (nI 23)), (6, .int (nI (pos + 1 + 1 + 1 + 1 + 1 + 1 + 1 + 1 + 1 + 1 + 1 + 1 + 1 + 1 + 1 + 1 + 1 + 1 + 1 + 1 + 1 + 1))), (8, .int (nI 26)), (7, .int (nI 6)), (0, .ref to), (1, .ref src), (2, .int (nI pos))]) d_Fi_load_48 (by decide) rfl k) ?_
  refine S_iincN (a := (pos + 1 + 1 + 1 + 1 + 1 + 1 + 1 + 1 + 1 + 1 + 1 + 1 + 1 + 1 + 1 + 1 + 1 + 1 + 1 + 1 + 1 + 1)) (b := 1) (L' := [(6, .int (nI (pos + 1 + 1 + 1 + 1 + 1 + 1 + 1 + 1 + 1 + 1 + 1 + 1 + 1 + 1 + 1 + 1 + 1 + 1 + 1 + 1 + 1 + 1 + 1))), (3, .long z139), (5, .int (nI 23)), (8, .int (nI 26)), (7, .int (nI 6)), (0, .ref to), (1, .ref src), (2, .int (nI pos))]) d_Fi_load_49 (by decide) rfl rfl rfl ?_
  refine S_iincN (a := 23) (b := 8) (L' := [(5, .int (nI 31)), (6, .int (nI (pos + 1 + 1 + 1 + 1 + 1 + 1 + 1 + 1 + 1 + 1 + 1 + 1 + 1 + 1 + 1 + 1 + 1 + 1 + 1 + 1 + 1 + 1 + 1))), (3, .long z139), (8, .int (nI 26)), (7, .int (nI 6)), (0, .ref to), (1, .ref src), (2, .int (nI pos))]) d_Fi_load_52 (by decide) rfl rfl rfl ?_
  refine ST.lift (fun _ _ k => T_goto (tgt := 27) d_Fi_load_55 rfl k) ?_
  refine ST.lift (fun _ _ k => T_iload d_Fi_load_27 rfl k) ?_
  refine ST.lift (fun _ _ k => T_iload d_Fi_load_29 rfl k) ?_
  refine S_icmp_geN d_Fi_load_31 rfl (by omega) (by omega) (fun _ => ?_) (fun c => by first | exact absurd c (by omega) | exact c.elim | exact absurd c (by decide) | exact absurd (by assumption) c | exact absurd c (by assumption))
  refine ST.lift (fun _ _ k => T_aload_n (v := .ref to) d_Fi_load_58 rfl (Or.inr ⟨_, rfl⟩) k) ?_
  refine ST.lift (fun _ _ k => T_iload d_Fi_load_59 rfl k) ?_
  refine ST.lift (fun _ _ k => T_lload_n d_Fi_load_61 rfl k) ?_
  refine ST.lift (fun _ _ k => T_lconst (v := 1) d_Fi_load_62 (by decide) k) ?_
  refine ST.lift (fun _ _ k => T_iload d_Fi_load_63 rfl k) ?_
  refine ST.lift (fun _ _ k => T_lshl d_Fi_load_65 k) (S_anyl fun z140 => ?_)
  refine ST.lift (fun _ _ k => T_lconst (v := 1) d_Fi_load_66 (by decide) k) ?_
  refine ST.lift (fun _ _ k => T_lsub d_Fi_load_67 k) (S_anyl fun z141 => ?_)
  refine ST.lift (fun _ _ k => T_land d_Fi_load_68 k) (S_anyl fun z142 => ?_)
  refine S_lastore d_Fi_load_69 w_to a_to (vp_in_nI (by omega) (by omega)) ?_
  refine ST.lift (fun _ _ k => T_lload_n d_Fi_load_70 rfl k) ?_
  refine ST.lift (fun _ _ k => T_iload d_Fi_load_71 rfl k) ?_
  refine ST.lift (fun _ _ k => T_lshr d_Fi_load_73 k) (S_anyl fun z143 => ?_)
  refine ST.lift (fun _ _ k => T_lstore_n (L' := [(3, .long z143), (5, .int (nI 31)), (6, .int (nI (pos + 1 + 1 + 1 + 1 + 1 + 1 + 1 + 1 + 1 + 1 + 1 + 1 + 1 + 1 + 1 + 1 + 1 + 1 + 1 + 1 + 1 + 1 + 1))), (8, .int (nI 26)), (7, .int (nI 6)), (0, .ref to), (1, .ref src), (2, .int (nI pos))]) d_Fi_load_74 (by decide) rfl k) ?_
  refine ST.lift (fun _ _ k => T_iload d_Fi_load_75 rfl k) ?_
  refine ST.lift (fun _ _ k => T_iload d_Fi_load_77 rfl k) ?_
  refine S_isubN d_Fi_load_79 (by omega) ?_
  refine S_topi (y := nI 5) (by decide) ?_
  refine ST.lift (fun _ _ k => T_istore (L' := [(5, .int (nI 5)), (3, .long z143), (6, .int (nI (pos + 1 + 1 + 1 + 1 + 1 + 1 + 1 + 1 + 1 + 1 + 1 + 1 + 1 + 1 + 1 + 1 + 1 + 1 + 1 + 1 + 1 + 1 + 1))), (8, .int (nI 26)), (7, .int (nI 6)), (0, .ref to), (1, .ref src), (2, .int (nI pos))]) d_Fi_load_80 (by decide) rfl k) ?_
  refine S_iincN (a := 6) (b := 1) (L' := [(7, .int (nI 7)), (5, .int (nI 5)), (3, .long z143), (6, .int (nI (pos + 1 + 1 + 1 + 1 + 1 + 1 + 1 + 1 + 1 + 1 + 1 + 1 + 1 + 1 + 1 + 1 + 1 + 1 + 1 + 1 + 1 + 1 + 1))), (8, .int (nI 26)), (0, .ref to), (1, .ref src), (2, .int (nI pos))]) d_Fi_load_82 (by decide) rfl rfl rfl ?_
  refine ST.lift (fun _ _ k => T_goto (tgt := 11) d_Fi_load_85 rfl k) ?_
  refine ST.lift (fun _ _ k => T_iload d_Fi_load_11 rfl k) ?_
  refine ST.lift (fun _ _ k => T_bipush (v := nI 10) d_Fi_load_13 (by decide) k) ?_
  refine S_icmp_geN d_Fi_load_15 rfl (by omega) (by omega) (fun c => by first | exact absurd c (by omega) | exact c.elim | exact absurd c (by decide) | exact absurd (by assumption) c | exact absurd c (by assumption)) (fun _ => ?_)
  refine ST.lift (fun _ _ k => T_bipush (v := nI 26) d_Fi_load_18 (by decide) k) ?_
  refine ST.lift (fun _ _ k => T_iload d_Fi_load_20 rfl k) ?_
  refine ST.lift (fun _ _ k => T_iconst (v := nI 1) d_Fi_load_22 (by decide) k) ?_
  refine S_iandN 1 d_Fi_load_23 (by omega) (by decide) (by decide) ?_
  refine S_topi (y := nI 1) (by decide) ?_
  refine S_isubN d_Fi_load_24 (by omega) ?_
  refine S_topi (y := nI 25) (by decide) ?_
  refine ST.lift (fun _ _ k => T_istore (L' := [(8, .int (nI 25)), (7, .int (nI 7)), (5, .int (nI 5)), (3, .long z143), (6, .int (nI (pos + 1 + 1 + 1 + 1 + 1 + 1 + 1 + 1 + 1 + 1 + 1 + 1 + 1 + 1 + 1 + 1 + 1 + 1 + 1 + 1 + 1 + 1 + 1))), (0, .ref to), (1, .ref src), (2, .int (nI pos))]) d_Fi_load_25 (by decide) rfl k) ?_
  refine ST.lift (fun _ _ k => T_iload d_Fi_load_27 rfl k) ?_
  refine ST.lift (fun _ _ k => T_iload d_Fi_load_29 rfl k) ?_
  refine S_icmp_geN d_Fi_load_31 rfl (by omega) (by omega) (fun c => by first | exact absurd c (by omega) | exact c.elim | exact absurd c (by decide) | exact absurd (by assumption) c | exact absurd c (by assumption)) (fun _ => ?_)
  refine ST.lift (fun _ _ k => T_lload_n d_Fi_load_34 rfl k) ?_
  refine ST.lift (fun _ _ k => T_aload_n (v := .ref src) d_Fi_load_35 rfl (Or.inr ⟨_, rfl⟩) k) ?_
  refine ST.lift (fun _ _ k => T_iload d_Fi_load_36 rfl k) ?_
  refine S_baload d_Fi_load_38 a_src (vp_in_nI (by omega) (by omega)) (fun z144 hz144 => ?_)
  refine ST.lift (fun _ _ k => T_i2l d_Fi_load_39 k) (S_anyl fun z145 => ?_)
  refine ST.lift (fun _ _ k => T_ldc2 d_Fi_load_40 kJ_Fi_41 k) ?_
  refine ST.lift (fun _ _ k => T_land d_Fi_load_43 k) (S_anyl fun z146 => ?_)
  refine ST.lift (fun _ _ k => T_iload d_Fi_load_44 rfl k) ?_
  refine ST.lift (fun _ _ k => T_lshl d_Fi_load_46 k) (S_anyl fun z147 => ?_)
  refine ST.lift (fun _ _ k => T_lor d_Fi_load_47 k) (S_anyl fun z148 => ?_)
  refine ST.lift (fun _ _ k => T_lstore_n (L' := [(3, .long z148), (8, .int (nI 25)), (7, .int (nI 7)), (5, .int (nI 5)), (6, .int (nI (pos + 1 + 1 + 1 + 1 + 1 + 1 + 1 + 1 + 1 + 1 + 1 + 1 + 1 + 1 + 1 + 1 + 1 + 1 + 1 + 1 + 1 + 1 + 1))), (0, .ref to), (1, .ref src), (2, .int (nI pos))]) d_Fi_load_48 (by decide) rfl k) ?_
  refine S_iincN (a := (pos + 1 + 1 + 1 + 1 + 1 + 1 + 1 + 1 + 1 + 1 + 1 + 1 + 1 + 1 + 1 + 1 + 1 + 1 + 1 + 1 + 1 + 1 + 1)) (b := 1) (L' := [(6, .int (nI (pos + 1 + 1 + 1 + 1 + 1 + 1 + 1 + 1 + 1 + 1 + 1 + 1 + 1 + 1 + 1 + 1 + 1 + 1 + 1 + 1 + 1 + 1 + 1 + 1))), (3, .long z148), (8, .int (nI 25)), (7, .int (nI 7)), (5, .int (nI 5)), (0, .ref to), (1, .ref src), (2, .int (nI pos))]) d_Fi_load_49 (by decide) rfl rfl rfl ?_
  refine S_iincN (a := 5) (b := 8) (L' := [(5, .int (nI 13)), (6, .int (nI (pos + 1 + 1 + 1 + 1 + 1 + 1 + 1 + 1 + 1 + 1 + 1 + 1 + 1 + 1 + 1 + 1 + 1 + 1 + 1 + 1 + 1 + 1 + 1 + 1))), (3, .long z148), (8, .int (nI 25)), (7, .int (nI 7)), (0, .ref to), (1, .ref src), (2, .int (nI pos))]) d_Fi_load_52 (by decide) rfl rfl rfl ?_
  refine ST.lift (fun _ _ k => T_goto (tgt := 27) d_Fi_load_55 rfl k) ?_
  refine ST.lift (fun _ _ k => T_iload d_Fi_load_27 rfl k) ?_
  refine ST.lift (fun _ _ k => T_iload d_Fi_load_29 rfl k) ?_
  refine S_icmp_geN d_Fi_load_31 rfl (by omega) (by omega) (fun c => by first | exact absurd c (by omega) | exact c.elim | exact absurd c (by decide) | exact absurd (by assumption) c | exact absurd c (by assumption)) (fun _ => ?_)
  refine ST.lift (fun _ _ k => T_lload_n d_Fi_load_34 rfl k) ?_
  refine ST.lift (fun _ _ k => T_aload_n (v := .ref src) d_Fi_load_35 rfl (Or.inr ⟨_, rfl⟩) k) ?_
  refine ST.lift (fun _ _ k => T_iload d_Fi_load_36 rfl k) ?_
  refine S_baload d_Fi_load_38 a_src (vp_in_nI (by omega) (by omega)) (fun z149 hz149 => ?_)
  refine ST.lift (fun _ _ k => T_i2l d_Fi_load_39 k) (S_anyl fun z150 => ?_)
  refine ST.lift (fun _ _ k => T_ldc2 d_Fi_load_40 kJ_Fi_41 k) ?_
  refine ST.lift (fun _ _ k => T_land d_Fi_load_43 k) (S_anyl fun z151 => ?_)
  refine ST.lift (fun _ _ k => T_iload d_Fi_load_44 rfl k) ?_
  refine ST.lift (fun _ _ k => T_lshl d_Fi_load_46 k) (S_anyl fun z152 => ?_)
  refine ST.lift (fun _ _ k => T_lor d_Fi_load_47 k) (S_anyl fun z153 => ?_)
  refine ST.lift (fun _ _ k => T_lstore_n (L' := [(3, .long z153), (5, .int (nI 13)), (6, .int (nI (pos + 1 + 1 + 1 + 1 + 1 + 1 + 1 + 1 + 1 + 1 + 1 + 1 + 1 + 1 + 1 + 1 + 1 + 1 + 1 + 1 + 1 + 1 + 1 + 1))), (8, .int (nI 25)), (7, .int (nI 7)), (0, .ref to), (1, .ref src), (2, .int (nI pos))]) d_Fi_load_48 (by decide) rfl k) ?_
  refine S_iincN (a := (pos + 1 + 1 + 1 + 1 + 1 + 1 + 1 + 1 + 1 + 1 + 1 + 1 + 1 + 1 + 1 + 1 + 1 + 1 + 1 + 1 + 1 + 1 + 1 + 1)) (b := 1) (L' := [(6, .int (nI (pos + 1 + 1 + 1 + 1 + 1 + 1 + 1 + 1 + 1 + 1 + 1 + 1 + 1 + 1 + 1 + 1 + 1 + 1 + 1 + 1 + 1 + 1 + 1 + 1 + 1))), (3, .long z153), (5, .int (nI 13)), (8, .int (nI 25)), (7, .int (nI 7)), (0, .ref to), (1, .ref src), (2, .int (nI pos))]) d_Fi_load_49 (by decide) rfl rfl rfl ?_
  refine S_iincN (a := 13) (b := 8) (L' := [(5, .int (nI 21)), (6, .int (nI (pos + 1 + 1 + 1 + 1 + 1 + 1 + 1 + 1 + 1 + 1 + 1 + 1 + 1 + 1 + 1 + 1 + 1 + 1 + 1 + 1 + 1 + 1 + 1 + 1 + 1))), (3, .long z153), (8, .int (nI 25)), (7, .int (nI 7)), (0, .ref to), (1, .ref src), (2, .int (nI pos))]) d_Fi_load_52 (by decide) rfl rfl rfl ?_
  refine ST.lift (fun _ _ k => T_goto (tgt := 27) d_Fi_load_55 rfl k) ?_
  refine ST.lift (fun _ _ k => T_iload d_Fi_load_27 rfl k) ?_
  refine ST.lift (fun _ _ k => T_iload d_Fi_load_29 rfl k) ?_
  refine S_icmp_geN d_Fi_load_31 rfl (by omega) (by omega) (fun c => by first | exact absurd c (by omega) | exact c.elim | exact absurd c (by decide) | exact absurd (by assumption) c | exact absurd c (by assumption)) (fun _ => ?_)
  refine ST.lift (fun _ _ k => T_lload_n d_Fi_load_34 rfl k) ?_
  refine ST.lift (fun _ _ k => T_aload_n (v := .ref src) d_Fi_load_35 rfl (Or.inr ⟨_, rfl⟩) k) ?_
  refine ST.lift (fun _ _ k => T_iload d_Fi_load_36 rfl k) ?_
  refine S_baload d_Fi_load_38 a_src (vp_in_nI (by omega) (by omega)) (fun z154 hz154 => ?_)
  refine ST.lift (fun _ _ k => T_i2l d_Fi_load_39 k) (S_anyl fun z155 => ?_)
  refine ST.lift (fun _ _ k => T_ldc2 d_Fi_load_40 kJ_Fi_41 k) ?_
  refine ST.lift (fun _ _ k => T_land d_Fi_load_43 k) (S_anyl fun z156 => ?_)
  refine ST.lift (fun _ _ k => T_iload d_Fi_load_44 rfl k) ?_
  refine ST.lift (fun _ _ k => T_lshl d_Fi_load_46 k) (S_anyl fun z157 => ?_)
  refine ST.lift (fun _ _ k => T_lor d_Fi_load_47 k) (S_anyl fun z158 => ?_)
  refine ST.lift (fun _ _ k => T_lstore_n (L' := [(3, .long z158), (5, .int (nI 21)), (6, .int (nI (pos + 1 + 1 + 1 + 1 + 1 + 1 + 1 + 1 + 1 + 1 + 1 + 1 + 1 + 1 + 1 + 1 + 1 + 1 + 1 + 1 + 1 + 1 + 1 + 1 + 1))), (8, .int (nI 25)), (7, .int (nI 7)), (0, .ref to), (1, .ref src), (2, .int (nI pos))]) d_Fi_load_48 (by decide) rfl k) ?_
  refine S_iincN (a := (pos + 1 + 1 + 1 + 1 + 1 + 1 + 1 + 1 + 1 + 1 + 1 + 1 + 1 + 1 + 1 + 1 + 1 + 1 + 1 + 1 + 1 + 1 + 1 + 1 + 1)) (b := 1) (L' := [(6, .int (nI (pos + 1 + 1 + 1 + 1 + 1 + 1 + 1 + 1 + 1 + 1 + 1 + 1 + 1 + 1 + 1 + 1 + 1 + 1 + 1 + 1 + 1 + 1 + 1 + 1 + 1 + 1))), (3, .long z158), (5, .int (nI 21)), (8, .int (nI 25)), (7, .int (nI 7)), (0, .ref to), (1, .ref src), (2, .int (nI pos))]) d_Fi_load_49 (by decide) rfl rfl rfl ?_
  refine S_iincN (a := 21) (b := 8) (L' := [(5, .int (nI 29)), (6, .int (nI (pos + 1 + 1 + 1 + 1 + 1 + 1 + 1 + 1 + 1 + 1 + 1 + 1 + 1 + 1 + 1 + 1 + 1 + 1 + 1 + 1 + 1 + 1 + 1 + 1 + 1 + 1))), (3, .long z158), (8, .int (nI 25)), (7, .int (nI 7)), (0, .ref to), (1, .ref src), (2, .int (nI pos))]) d_Fi_load_52 (by decide) rfl rfl rfl ?_
  refine ST.lift (fun _ _ k => T_goto (tgt := 27) d_Fi_load_55 rfl k) ?_
  refine ST.lift (fun _ _ k => T_iload d_Fi_load_27 rfl k) ?_
  refine ST.lift (fun _ _ k => T_iload d_Fi_load_29 rfl k) ?_
  refine S_icmp_geN d_Fi_load_31 rfl (by omega) (by omega) (fun _ => ?_) (fun c => by first | exact absurd c (by omega) | exact c.elim | exact absurd c (by decide) | exact absurd (by assumption) c | exact absurd c (by assumption))
  refine ST.lift (fun _ _ k => T_aload_n (v := .ref to) d_Fi_load_58 rfl (Or.inr ⟨_, rfl⟩) k) ?_
  refine ST.lift (fun _ _ k => T_iload d_Fi_load_59 rfl k) ?_
  refine ST.lift (fun _ _ k => T_lload_n d_Fi_load_61 rfl k) ?_
  refine ST.lift (fun _ _ k => T_lconst (v := 1) d_Fi_load_62 (by decide) k) ?_
  refine ST.lift (fun _ _ k => T_iload d_Fi_load_63 rfl k) ?_
  refine ST.lift (fun _ _ k => T_lshl d_Fi_load_65 k) (S_anyl fun z159 => ?_)
  refine ST.lift (fun _ _ k => T_lconst (v := 1) d_Fi_load_66 (by decide) k) ?_
  refine ST.lift (fun _ _ k => T_lsub d_Fi_load_67 k) (S_anyl fun z160 => ?_)
  refine ST.lift (fun _ _ k => T_land d_Fi_load_68 k) (S_anyl fun z161 => ?_)
  refine S_lastore d_Fi_load_69 w_to a_to (vp_in_nI (by omega) (by omega)) ?_
  refine ST.lift (fun _ _ k => T_lload_n d_Fi_load_70 rfl k) ?_
  refine ST.lift (fun _ _ k => T_iload d_Fi_load_71 rfl k) ?_
  refine ST.lift (fun _ _ k => T_lshr d_Fi_load_73 k) (S_anyl fun z162 => ?_)
  refine ST.lift (fun _ _ k => T_lstore_n (L' := [(3, .long z162), (5, .int (nI 29)), (6, .int (nI (pos + 1 + 1 + 1 + 1 + 1 + 1 + 1 + 1 + 1 + 1 + 1 + 1 + 1 + 1 + 1 + 1 + 1 + 1 + 1 + 1 + 1 + 1 + 1 + 1 + 1 + 1))), (8, .int (nI 25)), (7, .int (nI 7)), (0, .ref to), (1, .ref src), (2, .int (nI pos))]) d_Fi_load_74 (by decide) rfl k) ?_
  refine ST.lift (fun _ _ k => T_iload d_Fi_load_75 rfl k) ?_
  refine ST.lift (fun _ _ k => T_iload d_Fi_load_77 rfl k) ?_
  refine S_isubN d_Fi_load_79 (by omega) ?_
  refine S_topi (y := nI 4) (by decide) ?_
  refine ST.lift (fun _ _ k => T_istore (L' := [(5, .int (nI 4)), (3, .long z162), (6, .int (nI (pos + 1 + 1 + 1 + 1 + 1 + 1 + 1 + 1 + 1 + 1 + 1 + 1 + 1 + 1 + 1 + 1 + 1 + 1 + 1 + 1 + 1 + 1 + 1 + 1 + 1 + 1))), (8, .int (nI 25)), (7, .int (nI 7)), (0, .ref to), (1, .ref src), (2, .int (nI pos))]) d_Fi_load_80 (by decide) rfl k) ?_
  refine S_iincN (a := 7) (b := 1) (L' := [(7, .int (nI 8)), (5, .int (nI 4)), (3, .long z162), (6, .int (nI (pos + 1 + 1 + 1 + 1 + 1 + 1 + 1 + 1 + 1 + 1 + 1 + 1 + 1 + 1 + 1 + 1 + 1 + 1 + 1 + 1 + 1 + 1 + 1 + 1 + 1 + 1))), (8, .int (nI 25)), (0, .ref to), (1, .ref src), (2, .int (nI pos))]) d_Fi_load_82 (by decide) rfl rfl rfl ?_
  refine ST.lift (fun _ _ k => T_goto (tgt := 11) d_Fi_load_85 rfl k) ?_
  refine ST.lift (fun _ _ k => T_iload d_Fi_load_11 rfl k) ?_
  refine ST.lift (fun _ _ k => T_bipush (v := nI 10) d_Fi_load_13 (by decide) k) ?_
  refine S_icmp_geN d_Fi_load_15 rfl (by omega) (by omega) (fun c => by first | exact absurd c (by omega) | exact c.elim | exact absurd c (by decide) | exact absurd (by assumption) c | exact absurd c (by assumption)) (fun _ => ?_)
  refine ST.lift (fun _ _ k => T_bipush (v := nI 26) d_Fi_load_18 (by decide) k) ?_
  refine ST.lift (fun _ _ k => T_iload d_Fi_load_20 rfl k) ?_
  refine ST.lift (fun _ _ k => T_iconst (v := nI 1) d_Fi_load_22 (by decide) k) ?_
  refine S_iandN 1 d_Fi_load_23 (by omega) (by decide) (by decide) ?_
  refine S_topi (y := nI 0) (by decide) ?_
  refine S_isubN d_Fi_load_24 (by omega) ?_
  refine S_topi (y := nI 26) (by decide) ?_
  refine ST.lift (fun _ _ k => T_istore (L' := [(8, .int (nI 26)), (7, .int (nI 8)), (5, .int (nI 4)), (3, .long z162), (6, .int (nI (pos + 1 + 1 + 1 + 1 + 1 + 1 + 1 + 1 + 1 + 1 + 1 + 1 + 1 + 1 + 1 + 1 + 1 + 1 + 1 + 1 + 1 + 1 + 1 + 1 + 1 + 1))), (0, .ref to), (1, .ref src), (2, .int (nI pos))]) d_Fi_load_25 (by decide) rfl k) ?_
  refine ST.lift (fun _ _ k => T_iload d_Fi_load_27 rfl k) ?_
  refine ST.lift (fun _ _ k => T_iload d_Fi_load_29 rfl k) ?_
  refine S_icmp_geN d_Fi_load_31 rfl (by omega) (by omega) (fun c => by first | exact absurd c (by omega) | exact c.elim | exact absurd c (by decide) | exact absurd (by assumption) c | exact absurd c (by assumption)) (fun _ => ?_)
  refine ST.lift (fun _ _ k => T_lload_n d_Fi_load_34 rfl k) ?_
  refine ST.lift (fun _ _ k => T_aload_n (v := .ref src) d_Fi_load_35 rfl (Or.inr ⟨_, rfl⟩) k) ?_
  refine ST.lift (fun _ _ k => T_iload d_Fi_load_36 rfl k) ?_
  refine S_baload d_Fi_load_38 a_src (vp_in_nI (by omega) (by omega)) (fun z163 hz163 => ?_)
  refine ST.lift (fun _ _ k => T_i2l d_Fi_load_39 k) (S_anyl fun z164 => ?_)
  refine ST.lift (fun _ _ k => T_ldc2 d_Fi_load_40 kJ_Fi_41 k) ?_
  refine ST.lift (fun _ _ k => T_land d_Fi_load_43 k) (S_anyl fun z165 => ?_)
  refine ST.lift (fun _ _ k => T_iload d_Fi_load_44 rfl k) ?_
  refine ST.lift (fun _ _ k => T_lshl d_Fi_load_46 k) (S_anyl fun z166 => ?_)
  refine ST.lift (fun _ _ k => T_lor d_Fi_load_47 k) (S_anyl fun z167 => ?_)
  refine ST.lift (fun _ _ k => T_lstore_n (L' := [(3, .long z167), (8, .int (nI 26)), (7, .int (nI 8)), (5, .int (nI 4)), (6, .int (nI (pos + 1 + 1 + 1 + 1 + 1 + 1 + 1 + 1 + 1 + 1 + 1 + 1 + 1 + 1 + 1 + 1 + 1 + 1 + 1 + 1 + 1 + 1 + 1 + 1 + 1 + 1))), (0, .ref to), (1, .ref src), (2, .int (nI pos))]) d_Fi_load_48 (by decide) rfl k) ?_
  refine S_iincN (a := (pos + 1 + 1 + 1 + 1 + 1 + 1 + 1 + 1 + 1 + 1 + 1 + 1 + 1 + 1 + 1 + 1 + 1 + 1 + 1 + 1 + 1 + 1 + 1 + 1 + 1 + 1)) (b := 1) (L' := [(6, .int (nI (pos + 1 + 1 + 1 + 1 + 1 + 1 + 1 + 1 + 1 + 1 + 1 + 1 + 1 + 1 + 1 + 1 + 1 + 1 + 1 + 1 + 1 + 1 + 1 + 1 + 1 + 1 + 1))), (3, .long z167), (8, .int (nI 26)), (7, .int (nI 8)), (5, .int (nI 4)), (0, .ref to), (1, .ref src), (2, .int (nI pos))]) d_Fi_load_49 (by decide) rfl rfl rfl ?_
  refine S_iincN (a := 4) (b := 8) (L' := [(5, .int (nI 12)), (6, .int (nI (pos + 1 + 1 + 1 + 1 + 1 + 1 + 1 + 1 + 1 + 1 + 1 + 1 + 1 + 1 + 1 + 1 + 1 + 1 + 1 + 1 + 1 + 1 + 1 + 1 + 1 + 1 + 1))), (3, .long z167), (8, .int (nI 26)), (7, .int (nI 8)), (0, .ref to), (1, .ref src), (2, .int (nI pos))]) d_Fi_load_52 (by decide) rfl rfl rfl ?_
  refine ST.lift (fun _ _ k => T_goto (tgt := 27) d_Fi_load_55 rfl k) ?_
  refine ST.lift (fun _ _ k => T_iload d_Fi_load_27 rfl k) ?_
  refine ST.lift (fun _ _ k => T_iload d_Fi_load_29 rfl k) ?_
  refine S_icmp_geN d_Fi_load_31 rfl (by omega) (by omega) (fun c => by first | exact absurd c (by omega) | exact c.elim | exact absurd c (by decide) | exact absurd (by assumption) c | exact absurd c (by assumption)) (fun _ => ?_)
  refine ST.lift (fun _ _ k => T_lload_n d_Fi_load_34 rfl k) ?_
  refine ST.lift (fun _ _ k => T_aload_n (v := .ref src) d_Fi_load_35 rfl (Or.inr ⟨_, rfl⟩) k) ?_
  refine ST.lift (fun _ _ k => T_iload d_Fi_load_36 rfl k) ?_
  refine S_baload d_Fi_load_38 a_src (vp_in_nI (by omega) (by omega)) (fun z168 hz168 => ?_)
  refine ST.lift (fun _ _ k => T_i2l d_Fi_load_39 k) (S_anyl fun z169 => ?_)
  refine ST.lift (fun _ _ k => T_ldc2 d_Fi_load_40 kJ_Fi_41 k) ?_
  refine ST.lift (fun _ _ k => T_land d_Fi_load_43 k) (S_anyl fun z170 => ?_)
  refine ST.lift (fun _ _ k => T_iload d_Fi_load_44 rfl k) ?_
  refine ST.lift (fun _ _ k => T_lshl d_Fi_load_46 k) (S_anyl fun z171 => ?_)
  refine ST.lift (fun _ _ k => T_lor d_Fi_load_47 k) (S_anyl fun z172 => ?_)
  refine ST.lift (fun _ _ k => T_lstore_n (L' := [(3, .long z172), (5, .int (nI 12)), (6, .int (nI (pos + 1 + 1 + 1 + 1 + 1 + 1 + 1 + 1 + 1 + 1 + 1 + 1 + 1 + 1 + 1 + 1 + 1 + 1 + 1 + 1 + 1 + 1 + 1 + 1 + 1 + 1 + 1))), (8, .int (nI 26)), (7, .int (nI 8)), (0, .ref to), (1, .ref src), (2, .int (nI pos))]) d_Fi_load_48 (by decide) rfl k) ?_
  refine S_iincN (a := (pos + 1 + 1 + 1 + 1 + 1 + 1 + 1 + 1 + 1 + 1 + 1 + 1 + 1 + 1 + 1 + 1 + 1 + 1 + 1 + 1 + 1 + 1 + 1 + 1 + 1 + 1 + 1)) (b := 1) (L' := [(6, .int (nI (pos + 1 + 1 + 1 + 1 + 1 + 1 + 1 + 1 + 1 + 1 + 1 + 1 + 1 + 1 + 1 + 1 + 1 + 1 + 1 + 1 + 1 + 1 + 1 + 1 + 1 + 1 + 1 + 1))), (3, .long z172), (5, .int (nI 12)), (8, .int (nI 26)), (7, .int (nI 8)), (0, .ref to), (1, .ref src), (2, .int (nI pos))]) d_Fi_load_49 (by decide) rfl rfl rfl ?_
  refine S_iincN (a := 12) (b := 8) (L' := [(5, .int (nI 20)), (6, .int (nI (pos + 1 + 1 + 1 + 1 + 1 + 1 + 1 + 1 + 1 + 1 + 1 + 1 + 1 + 1 + 1 + 1 + 1 + 1 + 1 + 1 + 1 + 1 + 1 + 1 + 1 + 1 + 1 + 1))), (3, .long z172), (8, .int (nI 26)), (7, .int (nI 8)), (0, .ref to), (1, .ref src), (2, .int (nI pos))]) d_Fi_load_52 (by decide) rfl rfl rfl ?_
  refine ST.lift (fun _ _ k => T_goto (tgt := 27) d_Fi_load_55 rfl k) ?_
  refine ST.lift (fun _ _ k => T_iload d_Fi_load_27 rfl k) ?_
  refine ST.lift (fun _ _ k => T_iload d_Fi_load_29 rfl k) ?_
  refine S_icmp_geN d_Fi_load_31 rfl (by omega) (by omega) (fun c => by first | exact absurd c (by omega) | exact c.elim | exact absurd c (by decide) | exact absurd (by assumption) c | exact absurd c (by assumption)) (fun _ => ?_)
  refine ST.lift (fun _ _ k => T_lload_n d_Fi_load_34 rfl k) ?_
  refine ST.lift (fun _ _ k => T_aload_n (v := .ref src) d_Fi_load_35 rfl (Or.inr ⟨_, rfl⟩) k) ?_
  refine ST.lift (fun _ _ k => T_iload d_Fi_load_36 rfl k) ?_
  refine S_baload d_Fi_load_38 a_src (vp_in_nI (by omega) (by omega)) (fun z173 hz173 => ?_)
  refine ST.lift (fun _ _ k => T_i2l d_Fi_load_39 k) (S_anyl fun z174 => ?_)
  refine ST.lift (fun _ _ k => T_ldc2 d_Fi_load_40 kJ_Fi_41 k) ?_
  refine ST.lift (fun _ _ k => T_land d_Fi_load_43 k) (S_anyl fun z175 => ?_)
  refine ST.lift (fun _ _ k => T_iload d_Fi_load_44 rfl k) ?_
  refine ST.lift (fun _ _ k => T_lshl d_Fi_load_46 k) (S_anyl fun z176 => ?_)
  refine ST.lift (fun _ _ k => T_lor d_Fi_load_47 k) (S_anyl fun z177 => ?_)
  refine ST.lift (fun _ _ k => T_lstore_n (L' := [(3, .long z177), (5, .int (nI 20)), (6, .int (nI (pos + 1 + 1 + 1 + 1 + 1 + 1 + 1 + 1 + 1 + 1 + 1 + 1 + 1 + 1 + 1 + 1 + 1 + 1 + 1 + 1 + 1 + 1 + 1 + 1 + 1 + 1 + 1 + 1))), (8, .int (nI 26)), (7, .int (nI 8)), (0, .ref to), (1, .ref src), (2, .int (nI pos))]) d_Fi_load_48 (by decide) rfl k) ?_
  refine S_iincN (a := (pos + 1 + 1 + 1 + 1 + 1 + 1 + 1 + 1 + 1 + 1 + 1 + 1 + 1 + 1 + 1 + 1 + 1 + 1 + 1 + 1 + 1 + 1 + 1 + 1 + 1 + 1 + 1 + 1)) (b := 1) (L' := [(6, .int (nI (pos + 1 + 1 + 1 + 1 + 1 + 1 + 1 + 1 + 1 + 1 + 1 + 1 + 1 + 1 + 1 + 1 + 1 + 1 + 1 + 1 + 1 + 1 + 1 + 1 + 1 + 1 + 1 + 1 + 1))), (3, .long z177), (5, .int (nI 20)), (8, .int (nI 26)), (7, .int (nI 8)), (0, .ref to), (1, .ref src), (2, .int (nI pos))]) d_Fi_load_49 (by decide) rfl rfl rfl ?_
  refine S_iincN (a := 20) (b := 8) (L' := [(5, .int (nI 28)), (6, .int (nI (pos + 1 + 1 + 1 + 1 + 1 + 1 + 1 + 1 + 1 + 1 + 1 + 1 + 1 + 1 + 1 + 1 + 1 + 1 + 1 + 1 + 1 + 1 + 1 + 1 + 1 + 1 + 1 + 1 + 1))), (3, .long z177), (8, .int (nI 26)), (7, .int (nI 8)), (0, .ref to), (1, .ref src), (2, .int (nI pos))]) d_Fi_load_52 (by decide) rfl rfl rfl ?_
  refine ST.lift (fun _ _ k => T_goto (tgt := 27) d_Fi_load_55 rfl k) ?_
  refine ST.lift (fun _ _ k => T_iload d_Fi_load_27 rfl k) ?_
  refine ST.lift (fun _ _ k => T_iload d_Fi_load_29 rfl k) ?_
  refine S_icmp_geN d_Fi_load_31 rfl (by omega) (by omega) (fun _ => ?_) (fun c => by first | exact absurd c (by omega) | exact c.elim | exact absurd c (by decide) | exact absurd (by assumption) c | exact absurd c (by assumption))
  refine ST.lift (fun _ _ k => T_aload_n (v := .ref to) d_Fi_load_58 rfl (Or.inr ⟨_, rfl⟩) k) ?_
  refine ST.lift (fun _ _ k => T_iload d_Fi_load_59 rfl k) ?_
  refine ST.lift (fun _ _ k => T_lload_n d_Fi_load_61 rfl k) ?_
  refine ST.lift (fun _ _ k => T_lconst (v := 1) d_Fi_load_62 (by decide) k) ?_
  refine ST.lift (fun _ _ k => T_iload d_Fi_load_63 rfl k) ?_
  refine ST.lift (fun _ _ k => T_lshl d_Fi_load_65 k) (S_anyl fun z178 => ?_)
  refine ST.lift (fun _ _ k => T_lconst (v := 1) d_Fi_load_66 (by decide) k) ?_
  refine ST.lift (fun _ _ k => T_lsub d_Fi_load_67 k) (S_anyl fun z179 => ?_)
  refine ST.lift (fun _ _ k => T_land d_Fi_load_68 k) (S_anyl fun z180 => ?_)
  refine S_lastore d_Fi_load_69 w_to a_to (vp_in_nI (by omega) (by omega)) ?_
  refine ST.lift (fun _ _ k => T_lload_n d_Fi_load_70 rfl k) ?_
  refine ST.lift (fun _ _ k => T_iload d_Fi_load_71 rfl k) ?_
  refine ST.lift (fun _ _ k => T_lshr d_Fi_load_73 k) (S_anyl fun z181 => ?_)
  refine ST.lift (fun _ _ k => T_lstore_n (L' := [(3, .long z181), (5, .int (nI 28)), (6, .int (nI (pos + 1 + 1 + 1 + 1 + 1 + 1 + 1 + 1 + 1 + 1 + 1 + 1 + 1 + 1 + 1 + 1 + 1 + 1 + 1 + 1 + 1 + 1 + 1 + 1 + 1 + 1 + 1 + 1 + 1))), (8, .int (nI 26)), (7, .int (nI 8)), (0, .ref to), (1, .ref src), (2, .int (nI pos))]) d_Fi_load_74 (by decide) rfl k) ?_
  refine ST.lift (fun _ _ k => T_iload d_Fi_load_75 rfl k) ?_
  refine ST.lift (fun _ _ k => T_iload d_Fi_load_77 rfl k) ?_
  refine S_isubN d_Fi_load_79 (by omega) ?_
  refine S_topi (y := nI 2) (by decide) ?_
  refine ST.lift (fun _ _ k => T_istore (L' := [(5, .int (nI 2)), (3, .long z181), (6, .int (nI (pos + 1 + 1 + 1 + 1 + 1 + 1 + 1 + 1 + 1 + 1 + 1 + 1 + 1 + 1 + 1 + 1 + 1 + 1 + 1 + 1 + 1 + 1 + 1 + 1 + 1 + 1 + 1 + 1 + 1))), (8, .int (nI 26)), (7, .int (nI 8)), (0, .ref to), (1, .ref src), (2, .int (nI pos))]) d_Fi_load_80 (by decide) rfl k) ?_
  refine S_iincN (a := 8) (b := 1) (L' := [(7, .int (nI 9)), (5, .int (nI 2)), (3, .long z181), (6, .int (nI (pos + 1 + 1 + 1 + 1 + 1 + 1 + 1 + 1 + 1 + 1 + 1 + 1 + 1 + 1 + 1 + 1 + 1 + 1 + 1 + 1 + 1 + 1 + 1 + 1 + 1 + 1 + 1 + 1 + 1))), (8, .int (nI 26)), (0, .ref to), (1, .ref src), (2, .int (nI pos))]) d_Fi_load_82 (by decide) rfl rfl rfl ?_
  refine ST.lift (fun _ _ k => T_goto (tgt := 11) d_Fi_load_85 rfl k) ?_
  refine ST.lift (fun _ _ k => T_iload d_Fi_load_11 rfl k) ?_
  refine ST.lift (fun _ _ k => T_bipush (v := nI 10) d_Fi_load_13 (by decide) k) ?_
  refine S_icmp_geN d_Fi_load_15 rfl (by omega) (by omega) (fun c => by first | exact absurd c (by omega) | exact c.elim | exact absurd c (by decide) | exact absurd (by assumption) c | exact absurd c (by assumption)) (fun _ => ?_)
  refine ST.lift (fun _ _ k => T_bipush (v := nI 26) d_Fi_load_18 (by decide) k) ?_
  refine ST.lift (fun _ _ k => T_iload d_Fi_load_20 rfl k) ?_
  refine ST.lift (fun _ _ k => T_iconst (v := nI 1) d_Fi_load_22 (by decide) k) ?_
  refine S_iandN 1 d_Fi_load_23 (by omega) (by decide) (by decide) ?_
  refine S_topi (y := nI 1) (by decide) ?_
  refine S_isubN d_Fi_load_24 (by omega) ?_
  refine S_topi (y := nI 25) (by decide) ?_
  refine ST.lift (fun _ _ k => T_istore (L' := [(8, .int (nI 25)), (7, .int (nI 9)), (5, .int (nI 2)), (3, .long z181), (6, .int (nI (pos + 1 + 1 + 1 + 1 + 1 + 1 + 1 + 1 + 1 + 1 + 1 + 1 + 1 + 1 + 1 + 1 + 1 + 1 + 1 + 1 + 1 + 1 + 1 + 1 + 1 + 1 + 1 + 1 + 1))), (0, .ref to), (1, .ref src), (2, .int (nI pos))]) d_Fi_load_25 (by decide) rfl k) ?_
  refine ST.lift (fun _ _ k => T_iload d_Fi_load_27 rfl k) ?_
  refine ST.lift (fun _ _ k => T_iload d_Fi_load_29 rfl k) ?_
  refine S_icmp_geN d_Fi_load_31 rfl (by omega) (by omega) (fun c => by first | exact absurd c (by omega) | exact c.elim | exact absurd c (by decide) | exact absurd (by assumption) c | exact absurd c (by assumption)) (fun _ => ?_)
  refine ST.lift (fun _ _ k => T_lload_n d_Fi_load_34 rfl k) ?_
  refine ST.lift (fun _ _ k => T_aload_n (v := .ref src) d_Fi_load_35 rfl (Or.inr ⟨_, rfl⟩) k) ?_
  refine ST.lift (fun _ _ k => T_iload d_Fi_load_36 rfl k) ?_
  refine S_baload d_Fi_load_38 a_src (vp_in_nI (by omega) (by omega)) (fun z182 hz182 => ?_)
  refine ST.lift (fun _ _ k => T_i2l d_Fi_load_39 k) (S_anyl fun z183 => ?_)
  refine ST.lift (fun _ _ k => T_ldc2 d_Fi_load_40 kJ_Fi_41 k) ?_
  refine ST.lift (fun _ _ k => T_land d_Fi_load_43 k) (S_anyl fun z184 => ?_)
  refine ST.lift (fun _ _ k => T_iload d_Fi_load_44 rfl k) ?_
  refine ST.lift (fun _ _ k => T_lshl d_Fi_load_46 k) (S_anyl fun z185 => ?_)
  refine ST.lift (fun _ _ k => T_lor d_Fi_load_47 k) (S_anyl fun z186 => ?_)
  refine ST.lift (fun _ _ k => T_lstore_n (L' := [(3, .long z186), (8, .int (nI 25)), (7, .int (nI 9)), (5, .int (nI 2)), (6, .int (nI (pos + 1 + 1 + 1 + 1 + 1 + 1 + 1 + 1 + 1 + 1 + 1 + 1 + 1 + 1 + 1 + 1 + 1 + 1 + 1 + 1 + 1 + 1 + 1 + 1 + 1 + 1 + 1 + 1 + 1))), (0, .ref to), (1, .ref src), (2, .int (nI pos))]) d_Fi_load_48 (by decide) rfl k) ?_
  refine S_iincN (a := (pos + 1 + 1 + 1 + 1 + 1 + 1 + 1 + 1 + 1 + 1 + 1 + 1 + 1 + 1 + 1 + 1 + 1 + 1 + 1 + 1 + 1 + 1 + 1 + 1 + 1 + 1 + 1 + 1 + 1)) (b := 1) (L' := [(6, .int (nI (pos + 1 + 1 + 1 + 1 + 1 + 1 + 1 + 1 + 1 + 1 + 1 + 1 + 1 + 1 + 1 + 1 + 1 + 1 + 1 + 1 + 1 + 1 + 1 + 1 + 1 + 1 + 1 + 1 + 1 + 1))), (3, .long z186), (8, .int (nI 25)), (7, .int (nI 9)), (5, .int (nI 2)), (0, .ref to), (1, .ref src), (2, .int (nI pos))]) d_Fi_load_49 (by decide) rfl rfl rfl ?_
  refine S_iincN (a := 2) (b := 8) (L' := [(5, .int (nI 10)), (6, .int (nI (pos + 1 + 1 + 1 + 1 + 1 + 1 + 1 + 1 + 1 + 1 + 1 + 1 + 1 + 1 + 1 + 1 + 1 + 1 + 1 + 1 + 1 + 1 + 1 + 1 + 1 + 1 + 1 + 1 + 1 + 1))), (3, .long z186), (8, .int (nI 25)), (7, .int (nI 9)), (0, .ref to), (1, .ref src), (2, .int (nI pos))]) d_Fi_load_52 (by decide) rfl rfl rfl ?_
  refine ST.lift (fun _ _ k => T_goto (tgt := 27) d_Fi_load_55 rfl k) ?_
  refine ST.lift (fun _ _ k => T_iload d_Fi_load_27 rfl k) ?_
  refine ST.lift (fun _ _ k => T_iload d_Fi_load_29 rfl k) ?_
  refine S_icmp_geN d_Fi_load_31 rfl (by omega) (by omega) (fun c => by first | exact absurd c (by omega) | exact c.elim | exact absurd c (by decide) | exact absurd (by assumption) c | exact absurd c (by assumption)) (fun _ => ?_)
  refine ST.lift (fun _ _ k => T_lload_n d_Fi_load_34 rfl k) ?_
  refine ST.lift (fun _ _ k => T_aload_n (v := .ref src) d_Fi_load_35 rfl (Or.inr ⟨_, rfl⟩) k) ?_
  refine ST.lift (fun _ _ k => T_iload d_Fi_load_36 rfl k) ?_
  refine S_baload d_Fi_load_38 a_src (vp_in_nI (by omega) (by omega)) (fun z187 hz187 => ?_)
  refine ST.lift (fun _ _ k => T_i2l d_Fi_load_39 k) (S_anyl fun z188 => ?_)
  refine ST.lift (fun _ _ k => T_ldc2 d_Fi_load_40 kJ_Fi_41 k) ?_
  refine ST.lift (fun _ _ k => T_land d_Fi_load_43 k) (S_anyl fun z189 => ?_)
  refine ST.lift (fun _ _ k => T_iload d_Fi_load_44 rfl k) ?_
  refine ST.lift (fun _ _ k => T_lshl d_Fi_load_46 k) (S_anyl fun z190 => ?_)
  refine ST.lift (fun _ _ k => T_lor d_Fi_load_47 k) (S_anyl fun z191 => ?_)
  refine ST.lift (fun _ _ k => T_lstore_n (L' := [(3, .long z191), (5, .int (nI 10)), (6, .int (nI (pos + 1 + 1 + 1 + 1 + 1 + 1 + 1 + 1 + 1 + 1 + 1 + 1 + 1 + 1 + 1 + 1 + 1 + 1 + 1 + 1 + 1 + 1 + 1 + 1 + 1 + 1 + 1 + 1 + 1 + 1))), (8, .int (nI 25)), (7, .int (nI 9)), (0, .ref to), (1, .ref src), (2, .int (nI pos))]) d_Fi_load_48 (by decide) rfl k) ?_
  refine S_iincN (a := (pos + 1 + 1 + 1 + 1 + 1 + 1 + 1 + 1 + 1 + 1 + 1 + 1 + 1 + 1 + 1 + 1 + 1 + 1 + 1 + 1 + 1 + 1 + 1 + 1 + 1 + 1 + 1 + 1 + 1 + 1)) (b := 1) (L' := [(6, .int (nI (pos + 1 + 1 + 1 + 1 + 1 + 1 + 1 + 1 + 1 + 1 + 1 + 1 + 1 + 1 + 1 + 1 + 1 + 1 + 1 + 1 + 1 + 1 + 1 + 1 + 1 + 1 + 1 + 1 + 1 + 1 + 1))), (3, .long z191), (5, .int (nI 10)), (8, .int (nI 25)), (7, .int (nI 9)), (0, .ref to), (1, .ref src), (2, .int (nI pos))]) d_Fi_load_49 (by decide) rfl rfl rfl ?_
  refine S_iincN (a := 10) (b := 8) (L' := [(5, .int (nI 18)), (6, .int (nI (pos + 1 + 1 + 1 + 1 + 1 + 1 + 1 + 1 + 1 + 1 + 1 + 1 + 1 + 1 + 1 + 1 + 1 + 1 + 1 + 1 + 1 + 1 + 1 + 1 + 1 + 1 + 1 + 1 + 1 + 1 + 1))), (3, .long z191), (8, .int (nI 25)), (7, .int (nI 9)), (0, .ref to), (1, .ref src), (2, .int (nI pos))]) d_Fi_load_52 (by decide) rfl rfl rfl ?_
  refine ST.lift (fun _ _ k => T_goto (tgt := 27) d_Fi_load_55 rfl k) ?_
  refine ST.lift (fun _ _ k => T_iload d_Fi_load_27 rfl k) ?_
  refine ST.lift (fun _ _ k => T_iload d_Fi_load_29 rfl k) ?_
  refine S_icmp_geN d_Fi_load_31 rfl (by omega) (by omega) (fun c => by first | exact absurd c (by omega) | exact c.elim | exact absurd c (by decide) | exact absurd (by assumption) c | exact absurd c (by assumption)) (fun _ => ?_)
  refine ST.lift (fun _ _ k => T_lload_n d_Fi_load_34 rfl k) ?_
  refine ST.lift (fun _ _ k => T_aload_n (v := .ref src) d_Fi_load_35 rfl (Or.inr ⟨_, rfl⟩) k) ?_
  refine ST.lift (fun _ _ k => T_iload d_Fi_load_36 rfl k) ?_
  refine S_baload d_Fi_load_38 a_src (vp_in_nI (by omega) (by omega)) (fun z192 hz192 => ?_)
  refine ST.lift (fun _ _ k => T_i2l d_Fi_load_39 k) (S_anyl fun z193 => ?_)
  refine ST.lift (fun _ _ k => T_ldc2 d_Fi_load_40 kJ_Fi_41 k) ?_
  refine ST.lift (fun _ _ k => T_land d_Fi_load_43 k) (S_anyl fun z194 => ?_)
  refine ST.lift (fun _ _ k => T_iload d_Fi_load_44 rfl k) ?_
  refine ST.lift (fun _ _ k => T_lshl d_Fi_load_46 k) (S_anyl fun z195 => ?_)
  refine ST.lift (fun _ _ k => T_lor d_Fi_load_47 k) (S_anyl fun z196 => ?_)
  refine ST.lift (fun _ _ k => T_lstore_n (L' := [(3, .long z196), (5, .int (nI 18)), (6, .int (nI (pos + 1 + 1 + 1 + 1 + 1 + 1 + 1 + 1 + 1 + 1 + 1 + 1 + 1 + 1 + 1 + 1 + 1 + 1 + 1 + 1 + 1 + 1 + 1 + 1 + 1 + 1 + 1 + 1 + 1 + 1 + 1))), (8, .int (nI 25)), (7, .int (nI 9)), (0, .ref to), (1, .ref src), (2, .int (nI pos))]) d_Fi_load_48 (by decide) rfl k) ?_
  refine S_iincN (a := (pos + 1 + 1 + 1 + 1 + 1 + 1 + 1 + 1 + 1 + 1 + 1 + 1 + 1 + 1 + 1 + 1 + 1 + 1 + 1 + 1 + 1 + 1 + 1 + 1 + 1 + 1 + 1 + 1 + 1 + 1 + 1)) (b := 1) (L' := [(6, .int (nI (pos + 1 + 1 + 1 + 1 + 1 + 1 + 1 + 1 + 1 + 1 + 1 + 1 + 1 + 1 + 1 + 1 + 1 + 1 + 1 + 1 + 1 + 1 + 1 + 1 + 1 + 1 + 1 + 1 + 1 + 1 + 1 + 1))), (3, .long z196), (5, .int (nI 18)), (8, .int (nI 25)), (7, .int (nI 9)), (0, .ref to), (1, .ref src), (2, .int (nI pos))]) d_Fi_load_49 (by decide) rfl rfl rfl ?_
  refine S_iincN (a := 18) (b := 8) (L' := [(5, .int (nI 26)), (6, .int (nI (pos + 1 + 1 + 1 + 1 + 1 + 1 + 1 + 1 + 1 + 1 + 1 + 1 + 1 + 1 + 1 + 1 + 1 + 1 + 1 + 1 + 1 + 1 + 1 + 1 + 1 + 1 + 1 + 1 + 1 + 1 + 1 + 1))), (3, .long z196), (8, .int (nI 25)), (7, .int (nI 9)), (0, .ref to), (1, .ref src), (2, .int (nI pos))]) d_Fi_load_52 (by decide) rfl rfl rfl ?_
  refine ST.lift (fun _ _ k => T_goto (tgt := 27) d_Fi_load_55 rfl k) ?_
  refine ST.lift (fun _ _ k => T_iload d_Fi_load_27 rfl k) ?_
  refine ST.lift (fun _ _ k => T_iload d_Fi_load_29 rfl k) ?_
  refine S_icmp_geN d_Fi_load_31 rfl (by omega) (by omega) (fun _ => ?_) (fun c => by first | exact absurd c (by omega) | exact c.elim | exact absurd c (by decide) | exact absurd (by assumption) c | exact absurd c (by assumption))
  refine ST.lift (fun _ _ k => T_aload_n (v := .ref to) d_Fi_load_58 rfl (Or.inr ⟨_, rfl⟩) k) ?_
  refine ST.lift (fun _ _ k => T_iload d_Fi_load_59 rfl k) ?_
  refine ST.lift (fun _ _ k => T_lload_n d_Fi_load_61 rfl k) ?_
  refine ST.lift (fun _ _ k => T_lconst (v := 1) d_Fi_load_62 (by decide) k) ?_
  refine ST.lift (fun _ _ k => T_iload d_Fi_load_63 rfl k) ?_
  refine ST.lift (fun _ _ k => T_lshl d_Fi_load_65 k) (S_anyl fun z197 => ?_)
  refine ST.lift (fun _ _ k => T_lconst (v := 1) d_Fi_load_66 (by decide) k) ?_
  refine ST.lift (fun _ _ k => T_lsub d_Fi_load_67 k) (S_anyl fun z198 => ?_)
  refine ST.lift (fun _ _ k => T_land d_Fi_load_68 k) (S_anyl fun z199 => ?_)
  refine S_lastore d_Fi_load_69 w_to a_to (vp_in_nI (by omega) (by omega)) ?_
  refine ST.lift (fun _ _ k => T_lload_n d_Fi_load_70 rfl k) ?_
  refine ST.lift (fun _ _ k => T_iload d_Fi_load_71 rfl k) ?_
  refine ST.lift (fun _ _ k => T_lshr d_Fi_load_73 k) (S_anyl fun z200 => ?_)
  refine ST.lift (fun _ _ k => T_lstore_n (L' := [(3, .long z200), (5, .int (nI 26)), (6, .int (nI (pos + 1 + 1 + 1 + 1 + 1 + 1 + 1 + 1 + 1 + 1 + 1 + 1 + 1 + 1 + 1 + 1 + 1 + 1 + 1 + 1 + 1 + 1 + 1 + 1 + 1 + 1 + 1 + 1 + 1 + 1 + 1 + 1))), (8, .int (nI 25)), (7, .int (nI 9)), (0, .ref to), (1, .ref src), (2, .int (nI pos))]) d_Fi_load_74 (by decide) rfl k) ?_
  refine ST.lift (fun _ _ k => T_iload d_Fi_load_75 rfl k) ?_
  refine ST.lift (fun _ _ k => T_iload d_Fi_load_77 rfl k) ?_
  refine S_isubN d_Fi_load_79 (by omega) ?_
  refine S_topi (y := nI 1) (by decide) ?_
  refine ST.lift (fun _ _ k => T_istore (L' := [(5, .int (nI 1)), (3, .long z200), (6, .int (nI (pos + 1 + 1 + 1 + 1 + 1 + 1 + 1 + 1 + 1 + 1 + 1 + 1 + 1 + 1 + 1 + 1 + 1 + 1 + 1 + 1 + 1 + 1 + 1 + 1 + 1 + 1 + 1 + 1 + 1 + 1 + 1 + 1))), (8, .int (nI 25)), (7, .int (nI 9)), (0, .ref to), (1, .ref src), (2, .int (nI pos))]) d_Fi_load_80 (by decide) rfl k) ?_
  refine S_iincN (a := 9) (b := 1) (L' := [(7, .int (nI 10)), (5, .int (nI 1)), (3, .long z200), (6, .int (nI (pos + 1 + 1 + 1 + 1 + 1 + 1 + 1 + 1 + 1 + 1 + 1 + 1 + 1 + 1 + 1 + 1 + 1 + 1 + 1 + 1 + 1 + 1 + 1 + 1 + 1 + 1 + 1 + 1 + 1 + 1 + 1 + 1))), (8, .int (nI 25)), (0, .ref to), (1, .ref src), (2, .int (nI pos))]) d_Fi_load_82 (by decide) rfl rfl rfl ?_
  refine ST.lift (fun _ _ k => T_goto (tgt := 11) d_Fi_load_85 rfl k) ?_
  refine ST.lift (fun _ _ k => T_iload d_Fi_load_11 rfl k) ?_
  refine ST.lift (fun _ _ k => T_bipush (v := nI 10) d_Fi_load_13 (by decide) k) ?_
  refine S_icmp_geN d_Fi_load_15 rfl (by omega) (by omega) (fun _ => ?_) (fun c => by first | exact absurd c (by omega) | exact c.elim | exact absurd c (by decide) | exact absurd (by assumption) c | exact absurd c (by assumption))
  exact S_vret d_Fi_load_88 rfl (by decide) (by decide) hQ
set_option maxRecDepth 100000 in
set_option maxHeartbeats 4000000 in
theorem c_Fi_makeWhole (G : GX) (v : Nat → Int32) (f : Nat) (a_f : aL f 10) : CS G mi_Fi_makeWhole [.ref 78, .ref f] v (fun r v' => r = none ∧ v' = v) := by
  refine CS.of (by decide) (Nat.le_of_ble_eq_true rfl) ?_
  generalize hQe : (fun (r : Option Value) (v' : Nat → Int32) => r = none ∧ v' = v) = Q
  have hQ : Q none v := by rw [← hQe]; exact ⟨rfl, rfl⟩
  clear hQe
  show ST G mi_Fi_makeWhole 0 [(0, .ref 78), (1, .ref f)] [] v 0 0 Q
  refine ST.lift (fun _ _ k => T_iconst (v := nI 0) d_Fi_makeWhole_0 (by decide) k) ?_
  refine ST.lift (fun _ _ k => T_istore_n (L' := [(2, .int (nI 0)), (0, .ref 78), (1, .ref f)]) d_Fi_makeWhole_1 (by decide) rfl k) ?_
  refine ST.lift (fun _ _ k => T_iload_n d_Fi_makeWhole_2 rfl k) ?_
  refine ST.lift (fun _ _ k => T_bipush (v := nI 10) d_Fi_makeWhole_3 (by decide) k) ?_
  refine S_icmp_geN d_Fi_makeWhole_5 rfl (by omega) (by omega) (fun c => by first | exact absurd c (by omega) | exact c.elim | exact absurd c (by decide) | exact absurd (by assumption) c | exact absurd c (by assumption)) (fun _ => ?_)
  refine ST.lift (fun _ _ k => T_aload_n (v := .ref 78) d_Fi_makeWhole_8 rfl (Or.inr ⟨_, rfl⟩) k) ?_
  refine S_getfield d_Fi_makeWhole_9 fg_Fi_9 (w78 _) rfl ?_
  refine ST.lift (fun _ _ k => T_iload_n d_Fi_makeWhole_12 rfl k) ?_
  refine ST.lift (fun _ _ k => T_aload_n (v := .ref f) d_Fi_makeWhole_13 rfl (Or.inr ⟨_, rfl⟩) k) ?_
  refine ST.lift (fun _ _ k => T_iload_n d_Fi_makeWhole_14 rfl k) ?_
  refine S_laload d_Fi_makeWhole_15 a_f (vp_in_nI (by omega) (by omega)) (fun z1 => ?_)
  refine S_lastore d_Fi_makeWhole_16 (by decide) a79 (vp_in_nI (by omega) (by omega)) ?_
  refine S_iincN (a := 0) (b := 1) (L' := [(2, .int (nI 1)), (0, .ref 78), (1, .ref f)]) d_Fi_makeWhole_17 (by decide) rfl rfl rfl ?_
  refine ST.lift (fun _ _ k => T_goto (tgt := 2) d_Fi_makeWhole_20 rfl k) ?_
  refine ST.lift (fun _ _ k => T_iload_n d_Fi_makeWhole_2 rfl k) ?_
  refine ST.lift (fun _ _ k => T_bipush (v := nI 10) d_Fi_makeWhole_3 (by decide) k) ?_
  refine S_icmp_geN d_Fi_makeWhole_5 rfl (by omega) (by omega) (fun c => by first | exact absurd c (by omega) | exact c.elim | exact absurd c (by decide) | exact absurd (by assumption) c | exact absurd c (by assumption)) (fun _ => ?_)
  refine ST.lift (fun _ _ k => T_aload_n (v := .ref 78) d_Fi_makeWhole_8 rfl (Or.inr ⟨_, rfl⟩) k) ?_
  refine S_getfield d_Fi_makeWhole_9 fg_Fi_9 (w78 _) rfl ?_
  refine ST.lift (fun _ _ k => T_iload_n d_Fi_makeWhole_12 rfl k) ?_
  refine ST.lift (fun _ _ k => T_aload_n (v := .ref f) d_Fi_makeWhole_13 rfl (Or.inr ⟨_, rfl⟩) k) ?_
  refine ST.lift (fun _ _ k => T_iload_n d_Fi_makeWhole_14 rfl k) ?_
  refine S_laload d_Fi_makeWhole_15 a_f (vp_in_nI (by omega) (by omega)) (fun z2 => ?_)
  refine S_lastore d_Fi_makeWhole_16 (by decide) a79 (vp_in_nI (by omega) (by omega)) ?_
  refine S_iincN (a := 1) (b := 1) (L' := [(2, .int (nI 2)), (0, .ref 78), (1, .ref f)]) d_Fi_makeWhole_17 (by decide) rfl rfl rfl ?_
  refine ST.lift (fun _ _ k => T_goto (tgt := 2) d_Fi_makeWhole_20 rfl k) ?_
  refine ST.lift (fun _ _ k => T_iload_n d_Fi_makeWhole_2 rfl k) ?_
  refine ST.lift (fun _ _ k => T_bipush (v := nI 10) d_Fi_makeWhole_3 (by decide) k) ?_
  refine S_icmp_geN d_Fi_makeWhole_5 rfl (by omega) (by omega) (fun c => by first | exact absurd c (by omega) | exact c.elim | exact absurd c (by decide) | exact absurd (by assumption) c | exact absurd c (by assumption)) (fun _ => ?_)
  refine ST.lift (fun _ _ k => T_aload_n (v := .ref 78) d_Fi_makeWhole_8 rfl (Or.inr ⟨_, rfl⟩) k) ?_
  refine S_getfield d_Fi_makeWhole_9 fg_Fi_9 (w78 _) rfl ?_
  refine ST.lift (fun _ _ k => T_iload_n d_Fi_makeWhole_12 rfl k) ?_
  refine ST.lift (fun _ _ k => T_aload_n (v := .ref f) d_Fi_makeWhole_13 rfl (Or.inr ⟨_, rfl⟩) k) ?_
  refine ST.lift (fun _ _ k => T_iload_n d_Fi_makeWhole_14 rfl k) ?_
  refine S_laload d_Fi_makeWhole_15 a_f (vp_in_nI (by omega) (by omega)) (fun z3 => ?_)
  refine S_lastore d_Fi_makeWhole_16 (by decide) a79 (vp_in_nI (by omega) (by omega)) ?_
  refine S_iincN (a := 2) (b := 1) (L' := [(2, .int (nI 3)), (0, .ref 78), (1, .ref f)]) d_Fi_makeWhole_17 (by decide) rfl rfl rfl ?_
  refine ST.lift (fun _ _ k => T_goto (tgt := 2) d_Fi_makeWhole_20 rfl k) ?_
  refine ST.lift (fun _ _ k => T_iload_n d_Fi_makeWhole_2 rfl k) ?_
  refine ST.lift (fun _ _ k => T_bipush (v := nI 10) d_Fi_makeWhole_3 (by decide) k) ?_
  refine S_icmp_geN d_Fi_makeWhole_5 rfl (by omega) (by omega) (fun c => by first | exact absurd c (by omega) | exact c.elim | exact absurd c (by decide) | exact absurd (by assumption) c | exact absurd c (by assumption)) (fun _ => ?_)
  refine ST.lift (fun _ _ k => T_aload_n (v := .ref 78) d_Fi_makeWhole_8 rfl (Or.inr ⟨_, rfl⟩) k) ?_
  refine S_getfield d_Fi_makeWhole_9 fg_Fi_9 (w78 _) rfl ?_
  refine ST.lift (fun _ _ k => T_iload_n d_Fi_makeWhole_12 rfl k) ?_
  refine ST.lift (fun _ _ k => T_aload_n (v := .ref f) d_Fi_makeWhole_13 rfl (Or.inr ⟨_, rfl⟩) k) ?_
  refine ST.lift (fun _ _ k => T_iload_n d_Fi_makeWhole_14 rfl k) ?_
  refine S_laload d_Fi_makeWhole_15 a_f (vp_in_nI (by omega) (by omega)) (fun z4 => ?_)
  refine S_lastore d_Fi_makeWhole_16 (by decide) a79 (vp_in_nI (by omega) (by omega)) ?_
  refine S_iincN (a := 3) (b := 1) (L' := [(2, .int (nI 4)), (0, .ref 78), (1, .ref f)]) d_Fi_makeWhole_17 (by decide) rfl rfl rfl ?_
  refine ST.lift (fun _ _ k => T_goto (tgt := 2) d_Fi_makeWhole_20 rfl k) ?_
  refine ST.lift (fun _ _ k => T_iload_n d_Fi_makeWhole_2 rfl k) ?_
  refine ST.lift (fun _ _ k => T_bipush (v := nI 10) d_Fi_makeWhole_3 (by decide) k) ?_
  refine S_icmp_geN d_Fi_makeWhole_5 rfl (by omega) (by omega) (fun c => by first | exact absurd c (by omega) | exact c.elim | exact absurd c (by decide) | exact absurd (by assumption) c | exact absurd c (by assumption)) (fun _ => ?_)
  refine ST.lift (fun _ _ k => T_aload_n (v := .ref 78) d_Fi_makeWhole_8 rfl (Or.inr ⟨_, rfl⟩) k) ?_
  refine S_getfield d_Fi_makeWhole_9 fg_Fi_9 (w78 _) rfl ?_
  refine ST.lift (fun _ _ k => T_iload_n d_Fi_makeWhole_12 rfl k) ?_
  refine ST.lift (fun _ _ k => T_aload_n (v := .ref f) d_Fi_makeWhole_13 rfl (Or.inr ⟨_, rfl⟩) k) ?_
  refine ST.lift (fun _ _ k => T_iload_n d_Fi_makeWhole_14 rfl k) ?_
  refine S_laload d_Fi_makeWhole_15 a_f (vp_in_nI (by omega) (by omega)) (fun z5 => ?_)
  refine S_lastore d_Fi_makeWhole_16 (by decide) a79 (vp_in_nI (by omega) (by omega)) ?_
  refine S_iincN (a := 4) (b := 1) (L' := [(2, .int (nI 5)), (0, .ref 78), (1, .ref f)]) d_Fi_makeWhole_17 (by decide) rfl rfl rfl ?_
  refine ST.lift (fun _ _ k => T_goto (tgt := 2) d_Fi_makeWhole_20 rfl k) ?_
  refine ST.lift (fun _ _ k => T_iload_n d_Fi_makeWhole_2 rfl k) ?_
  refine ST.lift (fun _ _ k => T_bipush (v := nI 10) d_Fi_makeWhole_3 (by decide) k) ?_
  refine S_icmp_geN d_Fi_makeWhole_5 rfl (by omega) (by omega) (fun c => by first | exact absurd c (by omega) | exact c.elim | exact absurd c (by decide) | exact absurd (by assumption) c | exact absurd c (by assumption)) (fun _ => ?_)
  refine ST.lift (fun _ _ k => T_aload_n (v := .ref 78) d_Fi_makeWhole_8 rfl (Or.inr ⟨_, rfl⟩) k) ?_
  refine S_getfield d_Fi_makeWhole_9 fg_Fi_9 (w78 _) rfl ?_
  refine ST.lift (fun _ _ k => T_iload_n d_Fi_makeWhole_12 rfl k) ?_
  refine ST.lift (fun _ _ k => T_aload_n (v := .ref f) d_Fi_makeWhole_13 rfl (Or.inr ⟨_, rfl⟩) k) ?_
  refine ST.lift (fun _ _ k => T_iload_n d_Fi_makeWhole_14 rfl k) ?_
  refine S_laload d_Fi_makeWhole_15 a_f (vp_in_nI (by omega) (by omega)) (fun z6 => ?_)
  refine S_lastore d_Fi_makeWhole_16 (by decide) a79 (vp_in_nI (by omega) (by omega)) ?_
  refine S_iincN (a := 5) (b := 1) (L' := [(2, .int (nI 6)), (0, .ref 78), (1, .ref f)]) d_Fi_makeWhole_17 (by decide) rfl rfl rfl ?_
  refine ST.lift (fun _ _ k => T_goto (tgt := 2) d_Fi_makeWhole_20 rfl k) ?_
  refine ST.lift (fun _ _ k => T_iload_n d_Fi_makeWhole_2 rfl k) ?_
  refine ST.lift (fun _ _ k => T_bipush (v := nI 10) d_Fi_makeWhole_3 (by decide) k) ?_
  refine S_icmp_geN d_Fi_makeWhole_5 rfl (by omega) (by omega) (fun c => by first | exact absurd c (by omega) | exact c.elim | exact absurd c (by decide) | exact absurd (by assumption) c | exact absurd c (by assumption)) (fun _ => ?_)
  refine ST.lift (fun _ _ k => T_aload_n (v := .ref 78) d_Fi_makeWhole_8 rfl (Or.inr ⟨_, rfl⟩) k) ?_
  refine S_getfield d_Fi_makeWhole_9 fg_Fi_9 (w78 _) rfl ?_
  refine ST.lift (fun _ _ k => T_iload_n d_Fi_makeWhole_12 rfl k) ?_
  refine ST.lift (fun _ _ k => T_aload_n (v := .ref f) d_Fi_makeWhole_13 rfl (Or.inr ⟨_, rfl⟩) k) ?_
  refine ST.lift (fun _ _ k => T_iload_n d_Fi_makeWhole_14 rfl k) ?_
  refine S_laload d_Fi_makeWhole_15 a_f (vp_in_nI (by omega) (by omega)) (fun z7 => ?_)
  refine S_lastore d_Fi_makeWhole_16 (by decide) a79 (vp_in_nI (by omega) (by omega)) ?_
  refine S_iincN (a := 6) (b := 1) (L' := [(2, .int (nI 7)), (0, .ref 78), (1, .ref f)]) d_Fi_makeWhole_17 (by decide) rfl rfl rfl ?_
  refine ST.lift (fun _ _ k => T_goto (tgt := 2) d_Fi_makeWhole_20 rfl k) ?_
  refine ST.lift (fun _ _ k => T_iload_n d_Fi_makeWhole_2 rfl k) ?_
  refine ST.lift (fun _ _ k => T_bipush (v := nI 10) d_Fi_makeWhole_3 (by decide) k) ?_
  refine S_icmp_geN d_Fi_makeWhole_5 rfl (by omega) (by omega) (fun c => by first | exact absurd c (by omega) | exact c.elim | exact absurd c (by decide) | exact absurd (by assumption) c | exact absurd c (by assumption)) (fun _ => ?_)
  refine ST.lift (fun _ _ k => T_aload_n (v := .ref 78) d_Fi_makeWhole_8 rfl (Or.inr ⟨_, rfl⟩) k) ?_
  refine S_getfield d_Fi_makeWhole_9 fg_Fi_9 (w78 _) rfl ?_
  refine ST.lift (fun _ _ k => T_iload_n d_Fi_makeWhole_12 rfl k) ?_
  refine ST.lift (fun _ _ k => T_aload_n (v := .ref f) d_Fi_makeWhole_13 rfl (Or.inr ⟨_, rfl⟩) k) ?_
  refine ST.lift (fun _ _ k => T_iload_n d_Fi_makeWhole_14 rfl k) ?_
  refine S_laload d_Fi_makeWhole_15 a_f (vp_in_nI (by omega) (by omega)) (fun z8 => ?_)
  refine S_lastore d_Fi_makeWhole_16 (by decide) a79 (vp_in_nI (by omega) (by omega)) ?_
  refine S_iincN (a := 7) (b := 1) (L' := [(2, .int (nI 8)), (0, .ref 78), (1, .ref f)]) d_Fi_makeWhole_17 (by decide) rfl rfl rfl ?_
  refine ST.lift (fun _ _ k => T_goto (tgt := 2) d_Fi_makeWhole_20 rfl k) ?_
  refine ST.lift (fun _ _ k => T_iload_n d_Fi_makeWhole_2 rfl k) ?_
  refine ST.lift (fun _ _ k => T_bipush (v := nI 10) d_Fi_makeWhole_3 (by decide) k) ?_
  refine S_icmp_geN d_Fi_makeWhole_5 rfl (by omega) (by omega) (fun c => by first | exact absurd c (by omega) | exact c.elim | exact absurd c (by decide) | exact absurd (by assumption) c | exact absurd c (by assumption)) (fun _ => ?_)
  refine ST.lift (fun _ _ k => T_aload_n (v := .ref 78) d_Fi_makeWhole_8 rfl (Or.inr ⟨_, rfl⟩) k) ?_
  refine S_getfield d_Fi_makeWhole_9 fg_Fi_9 (w78 _) rfl ?_
  refine ST.lift (fun _ _ k => T_iload_n d_Fi_makeWhole_12 rfl k) ?_
  refine ST.lift (fun _ _ k => T_aload_n (v := .ref f) d_Fi_makeWhole_13 rfl (Or.inr ⟨_, rfl⟩) k) ?_
  refine ST.lift (fun _ _ k => T_iload_n d_Fi_makeWhole_14 rfl k) ?_
  refine S_laload d_Fi_makeWhole_15 a_f (vp_in_nI (by omega) (by omega)) (fun z9 => ?_)
  refine S_lastore d_Fi_makeWhole_16 (by decide) a79 (vp_in_nI (by omega) (by omega)) ?_
  refine S_iincN (a := 8) (b := 1) (L' := [(2, .int (nI 9)), (0, .ref 78), (1, .ref f)]) d_Fi_makeWhole_17 (by decide) rfl rfl rfl ?_
  refine ST.lift (fun _ _ k => T_goto (tgt := 2) d_Fi_makeWhole_20 rfl k) ?_
  refine ST.lift (fun _ _ k => T_iload_n d_Fi_makeWhole_2 rfl k) ?_
  refine ST.lift (fun _ _ k => T_bipush (v := nI 10) d_Fi_makeWhole_3 (by decide) k) ?_
  refine S_icmp_geN d_Fi_makeWhole_5 rfl (by omega) (by omega) (fun c => by first | exact absurd c (by omega) | exact c.elim | exact absurd c (by decide) | exact absurd (by assumption) c | exact absurd c (by assumption)) (fun _ => ?_)
  refine ST.lift (fun _ _ k => T_aload_n (v := .ref 78) d_Fi_makeWhole_8 rfl (Or.inr ⟨_, rfl⟩) k) ?_
  refine S_getfield d_Fi_makeWhole_9 fg_Fi_9 (w78 _) rfl ?_
  refine ST.lift (fun _ _ k => T_iload_n d_Fi_makeWhole_12 rfl k) ?_
  refine ST.lift (fun _ _ k => T_aload_n (v := .ref f) d_Fi_makeWhole_13 rfl (Or.inr ⟨_, rfl⟩) k) ?_
  refine ST.lift (fun _ _ k => T_iload_n d_Fi_makeWhole_14 rfl k) ?_
  refine S_laload d_Fi_makeWhole_15 a_f (vp_in_nI (by omega) (by omega)) (fun z10 => ?_)
  refine S_lastore d_Fi_makeWhole_16 (by decide) a79 (vp_in_nI (by omega) (by omega)) ?_
  refine S_iincN (a := 9) (b := 1) (L' := [(2, .int (nI 10)), (0, .ref 78), (1, .ref f)]) d_Fi_makeWhole_17 (by decide) rfl rfl rfl ?_
  refine ST.lift (fun _ _ k => T_goto (tgt := 2) d_Fi_makeWhole_20 rfl k) ?_
  refine ST.lift (fun _ _ k => T_iload_n d_Fi_makeWhole_2 rfl k) ?_
  refine ST.lift (fun _ _ k => T_bipush (v := nI 10) d_Fi_makeWhole_3 (by decide) k) ?_
  refine S_icmp_geN d_Fi_makeWhole_5 rfl (by omega) (by omega) (fun _ => ?_) (fun c => by first | exact absurd c (by omega) | exact c.elim | exact absurd c (by decide) | exact absurd (by assumption) c | exact absurd c (by assumption))
  refine ST.lift (fun _ _ k => T_lconst (v := 0) d_Fi_makeWhole_23 (by decide) k) ?_
  refine ST.lift (fun _ _ k => T_lstore_n (L' := [(2, .long 0), (0, .ref 78), (1, .ref f)]) d_Fi_makeWhole_24 (by decide) rfl k) ?_
  refine ST.lift (fun _ _ k => T_iconst (v := nI 0) d_Fi_makeWhole_25 (by decide) k) ?_
  refine ST.lift (fun _ _ k => T_istore (L' := [(4, .int (nI 0)), (2, .long 0), (0, .ref 78), (1, .ref f)]) d_Fi_makeWhole_26 (by decide) rfl k) ?_
  refine ST.lift (fun _ _ k => T_iload d_Fi_makeWhole_28 rfl k) ?_
  refine ST.lift (fun _ _ k => T_iconst (v := nI 4) d_Fi_makeWhole_30 (by decide) k) ?_
  refine S_icmp_geN d_Fi_makeWhole_31 rfl (by omega) (by omega) (fun c => by first | exact absurd c (by omega) | exact c.elim | exact absurd c (by decide) | exact absurd (by assumption) c | exact absurd c (by assumption)) (fun _ => ?_)
  refine ST.lift (fun _ _ k => T_ldc2 d_Fi_makeWhole_34 kJ_Fi_31 k) ?_
  refine ST.lift (fun _ _ k => T_lload_n d_Fi_makeWhole_37 rfl k) ?_
  refine ST.lift (fun _ _ k => T_lmul d_Fi_makeWhole_38 k) (S_anyl fun z11 => ?_)
  refine ST.lift (fun _ _ k => T_iload d_Fi_makeWhole_39 rfl k) ?_
  refine ST.lift (fun _ _ k => T_iconst (v := nI 2) d_Fi_makeWhole_41 (by decide) k) ?_
  refine S_icmp_neN d_Fi_makeWhole_42 rfl (by omega) (by omega) (fun _ => ?_) (fun c => by first | exact absurd c (by omega) | exact c.elim | exact absurd c (by decide) | exact absurd (by assumption) c | exact absurd c (by assumption))
  refine ST.lift (fun _ _ k => T_iload d_Fi_makeWhole_50 rfl k) ?_
  refine ST.lift (fun _ _ k => T_iconst (v := nI 3) d_Fi_makeWhole_52 (by decide) k) ?_
  refine S_icmp_neN d_Fi_makeWhole_53 rfl (by omega) (by omega) (fun _ => ?_) (fun c => by first | exact absurd c (by omega) | exact c.elim | exact absurd c (by decide) | exact absurd (by assumption) c | exact absurd c (by assumption))
  refine ST.lift (fun _ _ k => T_iconst (v := nI 0) d_Fi_makeWhole_61 (by decide) k) ?_
  refine ST.lift (fun _ _ k => T_i2l d_Fi_makeWhole_62 k) (S_anyl fun z12 => ?_)
  refine ST.lift (fun _ _ k => T_ladd d_Fi_makeWhole_63 k) (S_anyl fun z13 => ?_)
  refine ST.lift (fun _ _ k => T_lstore_n (L' := [(2, .long z13), (4, .int (nI 0)), (0, .ref 78), (1, .ref f)]) d_Fi_makeWhole_64 (by decide) rfl k) ?_
  refine ST.lift (fun _ _ k => T_iconst (v := nI 0) d_Fi_makeWhole_65 (by decide) k) ?_
  refine ST.lift (fun _ _ k => T_istore (L' := [(5, .int (nI 0)), (2, .long z13), (4, .int (nI 0)), (0, .ref 78), (1, .ref f)]) d_Fi_makeWhole_66 (by decide) rfl k) ?_
  have lp18 : ∀ (n16 k14 : Nat) (z15 : Int64), 10 - k14 = n16 → 0 ≤ k14 ∧ k14 ≤ 0 + 10 → ST G mi_Fi_makeWhole 68 [(5, .int (nI k14)), (2, .long z15), (4, .int (nI 0)), (0, .ref 78), (1, .ref f)] [] v 0 0 Q := by
    intro n16
    induction n16 using Nat.strongRecOn with
    | _ n16 ih17 =>
      intro k14 z15 h19 h20
      refine ST.lift (fun _ _ k => T_iload d_Fi_makeWhole_68 rfl k) ?_
      refine ST.lift (fun _ _ k => T_bipush (v := nI 10) d_Fi_makeWhole_70 (by decide) k) ?_
      refine S_icmp_geN d_Fi_makeWhole_72 rfl (by omega) (by omega) (fun c21 => ?_) (fun c21 => ?_)
      · refine S_iincN (a := 0) (b := 1) (L' := [(4, .int (nI 1)), (5, .int (nI k14)), (2, .long z15), (0, .ref 78), (1, .ref f)]) d_Fi_makeWhole_120 (by decide) rfl rfl rfl ?_
        refine ST.lift (fun _ _ k => T_goto (tgt := 28) d_Fi_makeWhole_123 rfl k) ?_
        refine ST.lift (fun _ _ k => T_iload d_Fi_makeWhole_28 rfl k) ?_
        refine ST.lift (fun _ _ k => T_iconst (v := nI 4) d_Fi_makeWhole_30 (by decide) k) ?_
        refine S_icmp_geN d_Fi_makeWhole_31 rfl (by omega) (by omega) (fun c => by first | exact absurd c (by omega) | exact c.elim | exact absurd c (by decide) | exact absurd (by assumption) c | exact absurd c (by assumption)) (fun _ => ?_)
        refine ST.lift (fun _ _ k => T_ldc2 d_Fi_makeWhole_34 kJ_Fi_31 k) ?_
        refine ST.lift (fun _ _ k => T_lload_n d_Fi_makeWhole_37 rfl k) ?_
        refine ST.lift (fun _ _ k => T_lmul d_Fi_makeWhole_38 k) (S_anyl fun z28 => ?_)
        refine ST.lift (fun _ _ k => T_iload d_Fi_makeWhole_39 rfl k) ?_
        refine ST.lift (fun _ _ k => T_iconst (v := nI 2) d_Fi_makeWhole_41 (by decide) k) ?_
        refine S_icmp_neN d_Fi_makeWhole_42 rfl (by omega) (by omega) (fun _ => ?_) (fun c => by first | exact absurd c (by omega) | exact c.elim | exact absurd c (by decide) | exact absurd (by assumption) c | exact absurd c (by assumption))
        refine ST.lift (fun _ _ k => T_iload d_Fi_makeWhole_50 rfl k) ?_
        refine ST.lift (fun _ _ k => T_iconst (v := nI 3) d_Fi_makeWhole_52 (by decide) k) ?_
        refine S_icmp_neN d_Fi_makeWhole_53 rfl (by omega) (by omega) (fun _ => ?_) (fun c => by first | exact absurd c (by omega) | exact c.elim | exact absurd c (by decide) | exact absurd (by assumption) c | exact absurd c (by assumption))
        refine ST.lift (fun _ _ k => T_iconst (v := nI 0) d_Fi_makeWhole_61 (by decide) k) ?_
        refine ST.lift (fun _ _ k => T_i2l d_Fi_makeWhole_62 k) (S_anyl fun z29 => ?_)
        refine ST.lift (fun _ _ k => T_ladd d_Fi_makeWhole_63 k) (S_anyl fun z30 => ?_)
        refine ST.lift (fun _ _ k => T_lstore_n (L' := [(2, .long z30), (4, .int (nI 1)), (5, .int (nI k14)), (0, .ref 78), (1, .ref f)]) d_Fi_makeWhole_64 (by decide) rfl k) ?_
        refine ST.lift (fun _ _ k => T_iconst (v := nI 0) d_Fi_makeWhole_65 (by decide) k) ?_
        refine ST.lift (fun _ _ k => T_istore (L' := [(5, .int (nI 0)), (2, .long z30), (4, .int (nI 1)), (0, .ref 78), (1, .ref f)]) d_Fi_makeWhole_66 (by decide) rfl k) ?_
        have lp35 : ∀ (n33 k31 : Nat) (z32 : Int64), 10 - k31 = n33 → 0 ≤ k31 ∧ k31 ≤ 0 + 10 → ST G mi_Fi_makeWhole 68 [(5, .int (nI k31)), (2, .long z32), (4, .int (nI 1)), (0, .ref 78), (1, .ref f)] [] v 0 0 Q := by
          intro n33
          induction n33 using Nat.strongRecOn with
          | _ n33 ih34 =>
            intro k31 z32 h36 h37
            refine ST.lift (fun _ _ k => T_iload d_Fi_makeWhole_68 rfl k) ?_
            refine ST.lift (fun _ _ k => T_bipush (v := nI 10) d_Fi_makeWhole_70 (by decide) k) ?_
            refine S_icmp_geN d_Fi_makeWhole_72 rfl (by omega) (by omega) (fun c38 => ?_) (fun c38 => ?_)
            · refine S_iincN (a := 1) (b := 1) (L' := [(4, .int (nI 2)), (5, .int (nI k31)), (2, .long z32), (0, .ref 78), (1, .ref f)]) d_Fi_makeWhole_120 (by decide) rfl rfl rfl ?_
              refine ST.lift (fun _ _ k => T_goto (tgt := 28) d_Fi_makeWhole_123 rfl k) ?_
              refine ST.lift (fun _ _ k => T_iload d_Fi_makeWhole_28 rfl k) ?_
              refine ST.lift (fun _ _ k => T_iconst (v := nI 4) d_Fi_makeWhole_30 (by decide) k) ?_
              refine S_icmp_geN d_Fi_makeWhole_31 rfl (by omega) (by omega) (fun c => by first | exact absurd c (by omega) | exact c.elim | exact absurd c (by decide) | exact absurd (by assumption) c | exact absurd c (by assumption)) (fun _ => ?_)
              refine ST.lift (fun _ _ k => T_ldc2 d_Fi_makeWhole_34 kJ_Fi_31 k) ?_
              refine ST.lift (fun _ _ k => T_lload_n d_Fi_makeWhole_37 rfl k) ?_
              refine ST.lift (fun _ _ k => T_lmul d_Fi_makeWhole_38 k) (S_anyl fun z45 => ?_)
              refine ST.lift (fun _ _ k => T_iload d_Fi_makeWhole_39 rfl k) ?_
              refine ST.lift (fun _ _ k => T_iconst (v := nI 2) d_Fi_makeWhole_41 (by decide) k) ?_
              refine S_icmp_neN d_Fi_makeWhole_42 rfl (by omega) (by omega) (fun c => by first | exact absurd c (by omega) | exact c.elim | exact absurd c (by decide) | exact absurd (by assumption) c | exact absurd c (by assumption)) (fun _ => ?_)
              refine ST.lift (fun _ _ k => T_bipush (v := nI 19) d_Fi_makeWhole_45 (by decide) k) ?_
              refine ST.lift (fun _ _ k => T_goto (tgt := 62) d_Fi_makeWhole_47 rfl k) ?_
              refine ST.lift (fun _ _ k => T_i2l d_Fi_makeWhole_62 k) (S_anyl fun z46 => ?_)
              refine ST.lift (fun _ _ k => T_ladd d_Fi_makeWhole_63 k) (S_anyl fun z47 => ?_)
              refine ST.lift (fun _ _ k => T_lstore_n (L' := [(2, .long z47), (4, .int (nI 2)), (5, .int (nI k31)), (0, .ref 78), (1, .ref f)]) d_Fi_makeWhole_64 (by decide) rfl k) ?_
              refine ST.lift (fun _ _ k => T_iconst (v := nI 0) d_Fi_makeWhole_65 (by decide) k) ?_
              refine ST.lift (fun _ _ k => T_istore (L' := [(5, .int (nI 0)), (2, .long z47), (4, .int (nI 2)), (0, .ref 78), (1, .ref f)]) d_Fi_makeWhole_66 (by decide) rfl k) ?_
              have lp52 : ∀ (n50 k48 : Nat) (z49 : Int64), 10 - k48 = n50 → 0 ≤ k48 ∧ k48 ≤ 0 + 10 → ST G mi_Fi_makeWhole 68 [(5, .int (nI k48)), (2, .long z49), (4, .int (nI 2)), (0, .ref 78), (1, .ref f)] [] v 0 0 Q := by
                intro n50
                induction n50 using Nat.strongRecOn with
                | _ n50 ih51 =>
                  intro k48 z49 h53 h54
                  refine ST.lift (fun _ _ k => T_iload d_Fi_makeWhole_68 rfl k) ?_
                  refine ST.lift (fun _ _ k => T_bipush (v := nI 10) d_Fi_makeWhole_70 (by decide) k) ?_
                  refine S_icmp_geN d_Fi_makeWhole_72 rfl (by omega) (by omega) (fun c55 => ?_) (fun c55 => ?_)
                  · refine S_iincN (a := 2) (b := 1) (L' := [(4, .int (nI 3)), (5, .int (nI k48)), (2, .long z49), (0, .ref 78), (1, .ref f)]) d_Fi_makeWhole_120 (by decide) rfl rfl rfl ?_
                    refine ST.lift (fun _ _ k => T_goto (tgt := 28) d_Fi_makeWhole_123 rfl k) ?_
                    refine ST.lift (fun _ _ k => T_iload d_Fi_makeWhole_28 rfl k) ?_
                    refine ST.lift (fun _ _ k => T_iconst (v := nI 4) d_Fi_makeWhole_30 (by decide) k) ?_
                    refine S_icmp_geN d_Fi_makeWhole_31 rfl (by omega) (by omega) (fun c => by first | exact absurd c (by omega) | exact c.elim | exact absurd c (by decide) | exact absurd (by assumption) c | exact absurd c (by assumption)) (fun _ => ?_)
                    refine ST.lift (fun _ _ k => T_ldc2 d_Fi_makeWhole_34 kJ_Fi_31 k) ?_
                    refine ST.lift (fun _ _ k => T_lload_n d_Fi_makeWhole_37 rfl k) ?_
                    refine ST.lift (fun _ _ k => T_lmul d_Fi_makeWhole_38 k) (S_anyl fun z62 => ?_)
                    refine ST.lift (fun _ _ k => T_iload d_Fi_makeWhole_39 rfl k) ?_
                    refine ST.lift (fun _ _ k => T_iconst (v := nI 2) d_Fi_makeWhole_41 (by decide) k) ?_
                    refine S_icmp_neN d_Fi_makeWhole_42 rfl (by omega) (by omega) (fun _ => ?_) (fun c => by first | exact absurd c (by omega) | exact c.elim | exact absurd c (by decide) | exact absurd (by assumption) c | exact absurd c (by assumption))
                    refine ST.lift (fun _ _ k => T_iload d_Fi_makeWhole_50 rfl k) ?_
                    refine ST.lift (fun _ _ k => T_iconst (v := nI 3) d_Fi_makeWhole_52 (by decide) k) ?_
                    refine S_icmp_neN d_Fi_makeWhole_53 rfl (by omega) (by omega) (fun c => by first | exact absurd c (by omega) | exact c.elim | exact absurd c (by decide) | exact absurd (by assumption) c | exact absurd c (by assumption)) (fun _ => ?_)
                    refine ST.lift (fun _ _ k => T_bipush (v := -19) d_Fi_makeWhole_56 (by decide) k) ?_
                    refine ST.lift (fun _ _ k => T_goto (tgt := 62) d_Fi_makeWhole_58 rfl k) ?_
                    refine ST.lift (fun _ _ k => T_i2l d_Fi_makeWhole_62 k) (S_anyl fun z63 => ?_)
                    refine ST.lift (fun _ _ k => T_ladd d_Fi_makeWhole_63 k) (S_anyl fun z64 => ?_)
                    refine ST.lift (fun _ _ k => T_lstore_n (L' := [(2, .long z64), (4, .int (nI 3)), (5, .int (nI k48)), (0, .ref 78), (1, .ref f)]) d_Fi_makeWhole_64 (by decide) rfl k) ?_
                    refine ST.lift (fun _ _ k => T_iconst (v := nI 0) d_Fi_makeWhole_65 (by decide) k) ?_
                    refine ST.lift (fun _ _ k => T_istore (L' := [(5, .int (nI 0)), (2, .long z64), (4, .int (nI 3)), (0, .ref 78), (1, .ref f)]) d_Fi_makeWhole_66 (by decide) rfl k) ?_
                    have lp69 : ∀ (n67 k65 : Nat) (z66 : Int64), 10 - k65 = n67 → 0 ≤ k65 ∧ k65 ≤ 0 + 10 → ST G mi_Fi_makeWhole 68 [(5, .int (nI k65)), (2, .long z66), (4, .int (nI 3)), (0, .ref 78), (1, .ref f)] [] v 0 0 Q := by
                      intro n67
                      induction n67 using Nat.strongRecOn with
                      | _ n67 ih68 =>
                        intro k65 z66 h70 h71
                        refine ST.lift (fun _ _ k => T_iload d_Fi_makeWhole_68 rfl k) ?_
                        refine ST.lift (fun _ _ k => T_bipush (v := nI 10) d_Fi_makeWhole_70 (by decide) k) ?_
                        refine S_icmp_geN d_Fi_makeWhole_72 rfl (by omega) (by omega) (fun c72 => ?_) (fun c72 => ?_)
                        · refine S_iincN (a := 3) (b := 1) (L' := [(4, .int (nI 4)), (5, .int (nI k65)), (2, .long z66), (0, .ref 78), (1, .ref f)]) d_Fi_makeWhole_120 (by decide) rfl rfl rfl ?_
                          refine ST.lift (fun _ _ k => T_goto (tgt := 28) d_Fi_makeWhole_123 rfl k) ?_
                          refine ST.lift (fun _ _ k => T_iload d_Fi_makeWhole_28 rfl k) ?_
                          refine ST.lift (fun _ _ k => T_iconst (v := nI 4) d_Fi_makeWhole_30 (by decide) k) ?_
                          refine S_icmp_geN d_Fi_makeWhole_31 rfl (by omega) (by omega) (fun _ => ?_) (fun c => by first | exact absurd c (by omega) | exact c.elim | exact absurd c (by decide) | exact absurd (by assumption) c | exact absurd c (by assumption))
                          exact S_vret d_Fi_makeWhole_126 rfl (by decide) (by decide) hQ
                        · refine ST.lift (fun _ _ k => T_bipush (v := nI 26) d_Fi_makeWhole_75 (by decide) k) ?_
                          refine ST.lift (fun _ _ k => T_iload d_Fi_makeWhole_77 rfl k) ?_
                          refine ST.lift (fun _ _ k => T_iconst (v := nI 1) d_Fi_makeWhole_79 (by decide) k) ?_
                          refine S_iandN 1 d_Fi_makeWhole_80 (by omega) (by decide) (by decide) ?_
                          refine S_isubN d_Fi_makeWhole_81 (by omega) ?_
                          refine ST.lift (fun _ _ k => T_istore (L' := [(6, .int (nI (26 - (k65 % 2)))), (5, .int (nI k65)), (2, .long z66), (4, .int (nI 3)), (0, .ref 78), (1, .ref f)]) d_Fi_makeWhole_82 (by decide) rfl k) ?_
                          refine ST.lift (fun _ _ k => T_lload_n d_Fi_makeWhole_84 rfl k) ?_
                          refine ST.lift (fun _ _ k => T_aload_n (v := .ref 78) d_Fi_makeWhole_85 rfl (Or.inr ⟨_, rfl⟩) k) ?_
                          refine S_getfield d_Fi_makeWhole_86 fg_Fi_9 (w78 _) rfl ?_
                          refine ST.lift (fun _ _ k => T_iload d_Fi_makeWhole_89 rfl k) ?_
                          refine S_laload d_Fi_makeWhole_91 a79 (vp_in_nI (by omega) (by omega)) (fun z79 => ?_)
                          refine ST.lift (fun _ _ k => T_ladd d_Fi_makeWhole_92 k) (S_anyl fun z80 => ?_)
                          refine ST.lift (fun _ _ k => T_lstore_n (L' := [(2, .long z80), (6, .int (nI (26 - (k65 % 2)))), (5, .int (nI k65)), (4, .int (nI 3)), (0, .ref 78), (1, .ref f)]) d_Fi_makeWhole_93 (by decide) rfl k) ?_
                          refine ST.lift (fun _ _ k => T_aload_n (v := .ref 78) d_Fi_makeWhole_94 rfl (Or.inr ⟨_, rfl⟩) k) ?_
                          refine S_getfield d_Fi_makeWhole_95 fg_Fi_9 (w78 _) rfl ?_
                          refine ST.lift (fun _ _ k => T_iload d_Fi_makeWhole_98 rfl k) ?_
                          refine ST.lift (fun _ _ k => T_lload_n d_Fi_makeWhole_100 rfl k) ?_
                          refine ST.lift (fun _ _ k => T_lconst (v := 1) d_Fi_makeWhole_101 (by decide) k) ?_
                          refine ST.lift (fun _ _ k => T_iload d_Fi_makeWhole_102 rfl k) ?_
                          refine ST.lift (fun _ _ k => T_lshl d_Fi_makeWhole_104 k) (S_anyl fun z81 => ?_)
                          refine ST.lift (fun _ _ k => T_lconst (v := 1) d_Fi_makeWhole_105 (by decide) k) ?_
                          refine ST.lift (fun _ _ k => T_lsub d_Fi_makeWhole_106 k) (S_anyl fun z82 => ?_)
                          refine ST.lift (fun _ _ k => T_land d_Fi_makeWhole_107 k) (S_anyl fun z83 => ?_)
                          refine S_lastore d_Fi_makeWhole_108 (by decide) a79 (vp_in_nI (by omega) (by omega)) ?_
                          refine ST.lift (fun _ _ k => T_lload_n d_Fi_makeWhole_109 rfl k) ?_
                          refine ST.lift (fun _ _ k => T_iload d_Fi_makeWhole_110 rfl k) ?_
                          refine ST.lift (fun _ _ k => T_lshr d_Fi_makeWhole_112 k) (S_anyl fun z84 => ?_)
                          refine ST.lift (fun _ _ k => T_lstore_n (L' := [(2, .long z84), (6, .int (nI (26 - (k65 % 2)))), (5, .int (nI k65)), (4, .int (nI 3)), (0, .ref 78), (1, .ref f)]) d_Fi_makeWhole_113 (by decide) rfl k) ?_
                          refine S_iincN (a := k65) (b := 1) (L' := [(5, .int (nI (k65 + 1))), (2, .long z84), (6, .int (nI (26 - (k65 % 2)))), (4, .int (nI 3)), (0, .ref 78), (1, .ref f)]) d_Fi_makeWhole_114 (by decide) rfl rfl rfl ?_
                          refine ST.lift (fun _ _ k => T_goto (tgt := 68) d_Fi_makeWhole_117 rfl k) ?_
                          refine S_pick [0, 1, 3, 4, 5] rfl ?_
                          exact ih68 (10 - (k65 + 1)) (by omega) (k65 + 1) z84 rfl (by omega)
                    exact lp69 _ 0 z64 rfl (by omega)
                  · refine ST.lift (fun _ _ k => T_bipush (v := nI 26) d_Fi_makeWhole_75 (by decide) k) ?_
                    refine ST.lift (fun _ _ k => T_iload d_Fi_makeWhole_77 rfl k) ?_
                    refine ST.lift (fun _ _ k => T_iconst (v := nI 1) d_Fi_makeWhole_79 (by decide) k) ?_
                    refine S_iandN 1 d_Fi_makeWhole_80 (by omega) (by decide) (by decide) ?_
                    refine S_isubN d_Fi_makeWhole_81 (by omega) ?_
                    refine ST.lift (fun _ _ k => T_istore (L' := [(6, .int (nI (26 - (k48 % 2)))), (5, .int (nI k48)), (2, .long z49), (4, .int (nI 2)), (0, .ref 78), (1, .ref f)]) d_Fi_makeWhole_82 (by decide) rfl k) ?_
                    refine ST.lift (fun _ _ k => T_lload_n d_Fi_makeWhole_84 rfl k) ?_
                    refine ST.lift (fun _ _ k => T_aload_n (v := .ref 78) d_Fi_makeWhole_85 rfl (Or.inr ⟨_, rfl⟩) k) ?_
                    refine S_getfield d_Fi_makeWhole_86 fg_Fi_9 (w78 _) rfl ?_
                    refine ST.lift (fun _ _ k => T_iload d_Fi_makeWhole_89 rfl k) ?_
                    refine S_laload d_Fi_makeWhole_91 a79 (vp_in_nI (by omega) (by omega)) (fun z85 => ?_)
                    refine ST.lift (fun _ _ k => T_ladd d_Fi_makeWhole_92 k) (S_anyl fun z86 => ?_)
                    refine ST.lift (fun _ _ k => T_lstore_n (L' := [(2, .long z86), (6, .int (nI (26 - (k48 % 2)))), (5, .int (nI k48)), (4, .int (nI 2)), (0, .ref 78), (1, .ref f)]) d_Fi_makeWhole_93 (by decide) rfl k) ?_
                    refine ST.lift (fun _ _ k => T_aload_n (v := .ref 78) d_Fi_makeWhole_94 rfl (Or.inr ⟨_, rfl⟩) k) ?_
                    refine S_getfield d_Fi_makeWhole_95 fg_Fi_9 (w78 _) rfl ?_
                    refine ST.lift (fun _ _ k => T_iload d_Fi_makeWhole_98 rfl k) ?_
                    refine ST.lift (fun _ _ k => T_lload_n d_Fi_makeWhole_100 rfl k) ?_
                    refine ST.lift (fun _ _ k => T_lconst (v := 1) d_Fi_makeWhole_101 (by decide) k) ?_
                    refine ST.lift (fun _ _ k => T_iload d_Fi_makeWhole_102 rfl k) ?_
                    refine ST.lift (fun _ _ k => T_lshl d_Fi_makeWhole_104 k) (S_anyl fun z87 => ?_)
                    refine ST.lift (fun _ _ k => T_lconst (v := 1) d_Fi_makeWhole_105 (by decide) k) ?_
                    refine ST.lift (fun _ _ k => T_lsub d_Fi_makeWhole_106 k) (S_anyl fun z88 => ?_)
                    refine ST.lift (fun _ _ k => T_land d_Fi_makeWhole_107 k) (S_anyl fun z89 => ?_)
                    refine S_lastore d_Fi_makeWhole_108 (by decide) a79 (vp_in_nI (by omega) (by omega)) ?_
                    refine ST.lift (fun _ _ k => T_lload_n d_Fi_makeWhole_109 rfl k) ?_
                    refine ST.lift (fun _ _ k => T_iload d_Fi_makeWhole_110 rfl k) ?_
                    refine ST.lift (fun _ _ k => T_lshr d_Fi_makeWhole_112 k) (S_anyl fun z90 => ?_)
                    refine ST.lift (fun _ _ k => T_lstore_n (L' := [(2, .long z90), (6, .int (nI (26 - (k48 % 2)))), (5, .int (nI k48)), (4, .int (nI 2)), (0, .ref 78), (1, .ref f)]) d_Fi_makeWhole_113 (by decide) rfl k) ?_
                    refine S_iincN (a := k48) (b := 1) (L' := [(5, .int (nI (k48 + 1))), (2, .long z90), (6, .int (nI (26 - (k48 % 2)))), (4, .int (nI 2)), (0, .ref 78), (1, .ref f)]) d_Fi_makeWhole_114 (by decide) rfl rfl rfl ?_
                    refine ST.lift (fun _ _ k => T_goto (tgt := 68) d_Fi_makeWhole_117 rfl k) ?_
                    refine S_pick [0, 1, 3, 4, 5] rfl ?_
                    exact ih51 (10 - (k48 + 1)) (by omega) (k48 + 1) z90 rfl (by omega)
              exact lp52 _ 0 z47 rfl (by omega)
            · refine ST.lift (fun _ _ k => T_bipush (v := nI 26) d_Fi_makeWhole_75 (by decide) k) ?_
              refine ST.lift (fun _ _ k => T_iload d_Fi_makeWhole_77 rfl k) ?_
              refine ST.lift (fun _ _ k => T_iconst (v := nI 1) d_Fi_makeWhole_79 (by decide) k) ?_
              refine S_iandN 1 d_Fi_makeWhole_80 (by omega) (by decide) (by decide) ?_
              refine S_isubN d_Fi_makeWhole_81 (by omega) ?_
              refine ST.lift (fun _ _ k => T_istore (L' := [(6, .int (nI (26 - (k31 % 2)))), (5, .int (nI k31)), (2, .long z32), (4, .int (nI 1)), (0, .ref 78), (1, .ref f)]) d_Fi_makeWhole_82 (by decide) rfl k) ?_
              refine ST.lift (fun _ _ k => T_lload_n d_Fi_makeWhole_84 rfl k) ?_
              refine ST.lift (fun _ _ k => T_aload_n (v := .ref 78) d_Fi_makeWhole_85 rfl (Or.inr ⟨_, rfl⟩) k) ?_
              refine S_getfield d_Fi_makeWhole_86 fg_Fi_9 (w78 _) rfl ?_
              refine ST.lift (fun _ _ k => T_iload d_Fi_makeWhole_89 rfl k) ?_
              refine S_laload d_Fi_makeWhole_91 a79 (vp_in_nI (by omega) (by omega)) (fun z91 => ?_)
              refine ST.lift (fun _ _ k => T_ladd d_Fi_makeWhole_92 k) (S_anyl fun z92 => ?_)
              refine ST.lift (fun _ _ k => T_lstore_n (L' := [(2, .long z92), (6, .int (nI (26 - (k31 % 2)))), (5, .int (nI k31)), (4, .int (nI 1)), (0, .ref 78), (1, .ref f)]) d_Fi_makeWhole_93 (by decide) rfl k) ?_
              refine ST.lift (fun _ _ k => T_aload_n (v := .ref 78) d_Fi_makeWhole_94 rfl (Or.inr ⟨_, rfl⟩) k) ?_
              refine S_getfield d_Fi_makeWhole_95 fg_Fi_9 (w78 _) rfl ?_
              refine ST.lift (fun _ _ k => T_iload d_Fi_makeWhole_98 rfl k) ?_
              refine ST.lift (fun _ _ k => T_lload_n d_Fi_makeWhole_100 rfl k) ?_
              refine ST.lift (fun _ _ k => T_lconst (v := 1) d_Fi_makeWhole_101 (by decide) k) ?_
              refine ST.lift (fun _ _ k => T_iload d_Fi_makeWhole_102 rfl k) ?_
              refine ST.lift (fun _ _ k => T_lshl d_Fi_makeWhole_104 k) (S_anyl fun z93 => ?_)
              refine ST.lift (fun _ _ k => T_lconst (v := 1) d_Fi_makeWhole_105 (by decide) k) ?_
              refine ST.lift (fun _ _ k => T_lsub d_Fi_makeWhole_106 k) (S_anyl fun z94 => ?_)
              refine ST.lift (fun _ _ k => T_land d_Fi_makeWhole_107 k) (S_anyl fun z95 => ?_)
              refine S_lastore d_Fi_makeWhole_108 (by decide) a79 (vp_in_nI (by omega) (by omega)) ?_
              refine ST.lift (fun _ _ k => T_lload_n d_Fi_makeWhole_109 rfl k) ?_
              refine ST.lift (fun _ _ k => T_iload d_Fi_makeWhole_110 rfl k) ?_
              refine ST.lift (fun _ _ k => T_lshr d_Fi_makeWhole_112 k) (S_anyl fun z96 => ?_)
              refine ST.lift (fun _ _ k => T_lstore_n (L' := [(2, .long z96), (6, .int (nI (26 - (k31 % 2)))), (5, .int (nI k31)), (4, .int (nI 1)), (0, .ref 78), (1, .ref f)]) d_Fi_makeWhole_113 (by decide) rfl k) ?_
              refine S_iincN (a := k31) (b := 1) (L' := [(5, .int (nI (k31 + 1))), (2, .long z96), (6, .int (nI (26 - (k31 % 2)))), (4, .int (nI 1)), (0, .ref 78), (1, .ref f)]) d_Fi_makeWhole_114 (by decide) rfl rfl rfl ?_
              refine ST.lift (fun _ _ k => T_goto (tgt := 68) d_Fi_makeWhole_117 rfl k) ?_
              refine S_pick [0, 1, 3, 4, 5] rfl ?_
              exact ih34 (10 - (k31 + 1)) (by omega) (k31 + 1) z96 rfl (by omega)
        exact lp35 _ 0 z30 rfl (by omega)
      · refine ST.lift (fun _ _ k => T_bipush (v := nI 26) d_Fi_makeWhole_75 (by decide) k) ?_
        refine ST.lift (fun _ _ k => T_iload d_Fi_makeWhole_77 rfl k) ?_
        refine ST.lift (fun _ _ k => T_iconst (v := nI 1) d_Fi_makeWhole_79 (by decide) k) ?_
        refine S_iandN 1 d_Fi_makeWhole_80 (by omega) (by decide) (by decide) ?_
        refine S_isubN d_Fi_makeWhole_81 (by omega) ?_
        refine ST.lift (fun _ _ k => T_istore (L' := [(6, .int (nI (26 - (k14 % 2)))), (5, .int (nI k14)), (2, .long z15), (4, .int (nI 0)), (0, .ref 78), (1, .ref f)]) d_Fi_makeWhole_82 (by decide) rfl k) ?_
        refine ST.lift (fun _ _ k => T_lload_n d_Fi_makeWhole_84 rfl k) ?_
        refine ST.lift (fun _ _ k => T_aload_n (v := .ref 78) d_Fi_makeWhole_85 rfl (Or.inr ⟨_, rfl⟩) k) ?_
        refine S_getfield d_Fi_makeWhole_86 fg_Fi_9 (w78 _) rfl ?_
        refine ST.lift (fun _ _ k => T_iload d_Fi_makeWhole_89 rfl k) ?_
        refine S_laload d_Fi_makeWhole_91 a79 (vp_in_nI (by omega) (by omega)) (fun z97 => ?_)
        refine ST.lift (fun _ _ k => T_ladd d_Fi_makeWhole_92 k) (S_anyl fun z98 => ?_)
        refine ST.lift (fun _ _ k => T_lstore_n (L' := [(2, .long z98), (6, .int (nI (26 - (k14 % 2)))), (5, .int (nI k14)), (4, .int (nI 0)), (0, .ref 78), (1, .ref f)]) d_Fi_makeWhole_93 (by decide) rfl k) ?_
        refine ST.lift (fun _ _ k => T_aload_n (v := .ref 78) d_Fi_makeWhole_94 rfl (Or.inr ⟨_, rfl⟩) k) ?_
        refine S_getfield d_Fi_makeWhole_95 fg_Fi_9 (w78 _) rfl ?_
        refine ST.lift (fun _ _ k => T_iload d_Fi_makeWhole_98 rfl k) ?_
        refine ST.lift (fun _ _ k => T_lload_n d_Fi_makeWhole_100 rfl k) ?_
        refine ST.lift (fun _ _ k => T_lconst (v := 1) d_Fi_makeWhole_101 (by decide) k) ?_
        refine ST.lift (fun _ _ k => T_iload d_Fi_makeWhole_102 rfl k) ?_
        refine ST.lift (fun _ _ k => T_lshl d_Fi_makeWhole_104 k) (S_anyl fun z99 => ?_)
        refine ST.lift (fun _ _ k => T_lconst (v := 1) d_Fi_makeWhole_105 (by decide) k) ?_
        refine ST.lift (fun _ _ k => T_lsub d_Fi_makeWhole_106 k) (S_anyl fun z100 => ?_)
        refine ST.lift (fun _ _ k => T_land d_Fi_makeWhole_107 k) (S_anyl fun z101 => ?_)
        refine S_lastore d_Fi_makeWhole_108 (by decide) a79 (vp_in_nI (by omega) (by omega)) ?_
        refine ST.lift (fun _ _ k => T_lload_n d_Fi_makeWhole_109 rfl k) ?_
        refine ST.lift (fun _ _ k => T_iload d_Fi_makeWhole_110 rfl k) ?_
        refine ST.lift (fun _ _ k => T_lshr d_Fi_makeWhole_112 k) (S_anyl fun z102 => ?_)
        refine ST.lift (fun _ _ k => T_lstore_n (L' := [(2, .long z102), (6, .int (nI (26 - (k14 % 2)))), (5, .int (nI k14)), (4, .int (nI 0)), (0, .ref 78), (1, .ref f)]) d_Fi_makeWhole_113 (by decide) rfl k) ?_
        refine S_iincN (a := k14) (b := 1) (L' := [(5, .int (nI (k14 + 1))), (2, .long z102), (6, .int (nI (26 - (k14 % 2)))), (4, .int (nI 0)), (0, .ref 78), (1, .ref f)]) d_Fi_makeWhole_114 (by decide) rfl rfl rfl ?_
        refine ST.lift (fun _ _ k => T_goto (tgt := 68) d_Fi_makeWhole_117 rfl k) ?_
        refine S_pick [0, 1, 3, 4, 5] rfl ?_
        exact ih17 (10 - (k14 + 1)) (by omega) (k14 + 1) z102 rfl (by omega)
  exact lp18 _ 0 z13 rfl (by omega)
set_option maxRecDepth 100000 in
set_option maxHeartbeats 4000000 in
theorem c_Fi_isOdd (G : GX) (v : Nat → Int32) (f : Nat) (a_f : aL f 10) : CS G mi_Fi_isOdd [.ref 78, .ref f] v (fun r v' => ∃ z : Nat, z ≤ 1 ∧ r = some (.int (nI z)) ∧ v' = v) := by
  refine CS.of (by decide) (Nat.le_of_ble_eq_true rfl) ?_
  generalize hQe : (fun (r : Option Value) (v' : Nat → Int32) => ∃ z : Nat, z ≤ 1 ∧ r = some (.int (nI z)) ∧ v' = v) = Q
  have hQ : ∀ z : Nat, z ≤ 1 → Q (some (.int (nI z))) v := by rw [← hQe]; exact fun z hz => ⟨z, hz, rfl, rfl⟩
  clear hQe
  show ST G mi_Fi_isOdd 0 [(0, .ref 78), (1, .ref f)] [] v 0 0 Q
  refine ST.lift (fun _ _ k => T_aload_n (v := .ref 78) d_Fi_isOdd_0 rfl (Or.inr ⟨_, rfl⟩) k) ?_
  refine ST.lift (fun _ _ k => T_aload_n (v := .ref f) d_Fi_isOdd_1 rfl (Or.inr ⟨_, rfl⟩) k) ?_
  refine S_virtual (as := [.ref f]) (rest := []) (b := 78) d_Fi_isOdd_2 rfl (jw_Fi_makeWhole.jo (by decide)) lm_Fi_43 ji_Fi_makeWhole js_Fi_makeWhole (w78 _) rfl rfl rfl (Nat.le_of_ble_eq_true rfl) (by decide) (by decide) (c_Fi_makeWhole G v f a_f) (fun r v' hq => ?_)
  rw [hq.1, hq.2]
  clear hq r v'
  show ST G mi_Fi_isOdd 5 [(0, .ref 78), (1, .ref f)] [] v 0 0 _
  refine ST.lift (fun _ _ k => T_aload_n (v := .ref 78) d_Fi_isOdd_5 rfl (Or.inr ⟨_, rfl⟩) k) ?_
  refine S_getfield d_Fi_isOdd_6 fg_Fi_9 (w78 _) rfl ?_
  refine ST.lift (fun _ _ k => T_iconst (v := nI 0) d_Fi_isOdd_9 (by decide) k) ?_
  refine S_laload d_Fi_isOdd_10 a79 (vp_in_nI (by omega) (by omega)) (fun z1 => ?_)
  refine ST.lift (fun _ _ k => T_lconst (v := 1) d_Fi_isOdd_11 (by decide) k) ?_
  refine ST.lift (fun _ _ k => T_land d_Fi_isOdd_12 k) (S_anyl fun z2 => ?_)
  refine ST.lift (fun _ _ k => T_lconst (v := 1) d_Fi_isOdd_13 (by decide) k) ?_
  refine ST.lift (fun _ _ k => T_lcmp d_Fi_isOdd_14 k) (S_anyi fun z3 => ?_)
  refine S_if_ne d_Fi_isOdd_15 rfl (fun c4 => ?_) (fun c4 => ?_)
  · refine ST.lift (fun _ _ k => T_iconst (v := nI 0) d_Fi_isOdd_22 (by decide) k) ?_
    exact S_ret d_Fi_isOdd_23 rfl (by decide) (by decide) (by decide) (hQ 0 (by decide))
  · refine ST.lift (fun _ _ k => T_iconst (v := nI 1) d_Fi_isOdd_18 (by decide) k) ?_
    refine ST.lift (fun _ _ k => T_goto (tgt := 23) d_Fi_isOdd_19 rfl k) ?_
    exact S_ret d_Fi_isOdd_23 rfl (by decide) (by decide) (by decide) (hQ 1 (by decide))
set_option maxRecDepth 100000 in
set_option maxHeartbeats 4000000 in
theorem c_Fi_isZero (G : GX) (v : Nat → Int32) (f : Nat) (a_f : aL f 10) : CS G mi_Fi_isZero [.ref 78, .ref f] v (fun r v' => ∃ z : Nat, z ≤ 1 ∧ r = some (.int (nI z)) ∧ v' = v) := by
  refine CS.of (by decide) (Nat.le_of_ble_eq_true rfl) ?_
  generalize hQe : (fun (r : Option Value) (v' : Nat → Int32) => ∃ z : Nat, z ≤ 1 ∧ r = some (.int (nI z)) ∧ v' = v) = Q
  have hQ : ∀ z : Nat, z ≤ 1 → Q (some (.int (nI z))) v := by rw [← hQe]; exact fun z hz => ⟨z, hz, rfl, rfl⟩
  clear hQe
  show ST G mi_Fi_isZero 0 [(0, .ref 78), (1, .ref f)] [] v 0 0 Q
  refine ST.lift (fun _ _ k => T_aload_n (v := .ref 78) d_Fi_isZero_0 rfl (Or.inr ⟨_, rfl⟩) k) ?_
  refine ST.lift (fun _ _ k => T_aload_n (v := .ref f) d_Fi_isZero_1 rfl (Or.inr ⟨_, rfl⟩) k) ?_
  refine S_virtual (as := [.ref f]) (rest := []) (b := 78) d_Fi_isZero_2 rfl (jw_Fi_makeWhole.jo (by decide)) lm_Fi_43 ji_Fi_makeWhole js_Fi_makeWhole (w78 _) rfl rfl rfl (Nat.le_of_ble_eq_true rfl) (by decide) (by decide) (c_Fi_makeWhole G v f a_f) (fun r v' hq => ?_)
  rw [hq.1, hq.2]
  clear hq r v'
  show ST G mi_Fi_isZero 5 [(0, .ref 78), (1, .ref f)] [] v 0 0 _
  refine ST.lift (fun _ _ k => T_lconst (v := 0) d_Fi_isZero_5 (by decide) k) ?_
  refine ST.lift (fun _ _ k => T_lstore_n (L' := [(2, .long 0), (0, .ref 78), (1, .ref f)]) d_Fi_isZero_6 (by decide) rfl k) ?_
  refine ST.lift (fun _ _ k => T_iconst (v := nI 0) d_Fi_isZero_7 (by decide) k) ?_
  refine ST.lift (fun _ _ k => T_istore (L' := [(4, .int (nI 0)), (2, .long 0), (0, .ref 78), (1, .ref f)]) d_Fi_isZero_8 (by decide) rfl k) ?_
  refine ST.lift (fun _ _ k => T_iload d_Fi_isZero_10 rfl k) ?_
  refine ST.lift (fun _ _ k => T_bipush (v := nI 10) d_Fi_isZero_12 (by decide) k) ?_
  refine S_icmp_geN d_Fi_isZero_14 rfl (by omega) (by omega) (fun c => by first | exact absurd c (by omega) | exact c.elim | exact absurd c (by decide) | exact absurd (by assumption) c | exact absurd c (by assumption)) (fun _ => ?_)
  refine ST.lift (fun _ _ k => T_lload_n d_Fi_isZero_17 rfl k) ?_
  refine ST.lift (fun _ _ k => T_aload_n (v := .ref 78) d_Fi_isZero_18 rfl (Or.inr ⟨_, rfl⟩) k) ?_
  refine S_getfield d_Fi_isZero_19 fg_Fi_9 (w78 _) rfl ?_
  refine ST.lift (fun _ _ k => T_iload d_Fi_isZero_22 rfl k) ?_
  refine S_laload d_Fi_isZero_24 a79 (vp_in_nI (by omega) (by omega)) (fun z1 => ?_)
  refine ST.lift (fun _ _ k => T_lor d_Fi_isZero_25 k) (S_anyl fun z2 => ?_)
  refine ST.lift (fun _ _ k => T_lstore_n (L' := [(2, .long z2), (4, .int (nI 0)), (0, .ref 78), (1, .ref f)]) d_Fi_isZero_26 (by decide) rfl k) ?_
  refine S_iincN (a := 0) (b := 1) (L' := [(4, .int (nI 1)), (2, .long z2), (0, .ref 78), (1, .ref f)]) d_Fi_isZero_27 (by decide) rfl rfl rfl ?_
  refine ST.lift (fun _ _ k => T_goto (tgt := 10) d_Fi_isZero_30 rfl k) ?_
  refine ST.lift (fun _ _ k => T_iload d_Fi_isZero_10 rfl k) ?_
  refine ST.lift (fun _ _ k => T_bipush (v := nI 10) d_Fi_isZero_12 (by decide) k) ?_
  refine S_icmp_geN d_Fi_isZero_14 rfl (by omega) (by omega) (fun c => by first | exact absurd c (by omega) | exact c.elim | exact absurd c (by decide) | exact absurd (by assumption) c | exact absurd c (by assumption)) (fun _ => ?_)
  refine ST.lift (fun _ _ k => T_lload_n d_Fi_isZero_17 rfl k) ?_
  refine ST.lift (fun _ _ k => T_aload_n (v := .ref 78) d_Fi_isZero_18 rfl (Or.inr ⟨_, rfl⟩) k) ?_
  refine S_getfield d_Fi_isZero_19 fg_Fi_9 (w78 _) rfl ?_
  refine ST.lift (fun _ _ k => T_iload d_Fi_isZero_22 rfl k) ?_
  refine S_laload d_Fi_isZero_24 a79 (vp_in_nI (by omega) (by omega)) (fun z3 => ?_)
  refine ST.lift (fun _ _ k => T_lor d_Fi_isZero_25 k) (S_anyl fun z4 => ?_)
  refine ST.lift (fun _ _ k => T_lstore_n (L' := [(2, .long z4), (4, .int (nI 1)), (0, .ref 78), (1, .ref f)]) d_Fi_isZero_26 (by decide) rfl k) ?_
  refine S_iincN (a := 1) (b := 1) (L' := [(4, .int (nI 2)), (2, .long z4), (0, .ref 78), (1, .ref f)]) d_Fi_isZero_27 (by decide) rfl rfl rfl ?_
  refine ST.lift (fun _ _ k => T_goto (tgt := 10) d_Fi_isZero_30 rfl k) ?_
  refine ST.lift (fun _ _ k => T_iload d_Fi_isZero_10 rfl k) ?_
  refine ST.lift (fun _ _ k => T_bipush (v := nI 10) d_Fi_isZero_12 (by decide) k) ?_
  refine S_icmp_geN d_Fi_isZero_14 rfl (by omega) (by omega) (fun c => by first | exact absurd c (by omega) | exact c.elim | exact absurd c (by decide) | exact absurd (by assumption) c | exact absurd c (by assumption)) (fun _ => ?_)
  refine ST.lift (fun _ _ k => T_lload_n d_Fi_isZero_17 rfl k) ?_
  refine ST.lift (fun _ _ k => T_aload_n (v := .ref 78) d_Fi_isZero_18 rfl (Or.inr ⟨_, rfl⟩) k) ?_
  refine S_getfield d_Fi_isZero_19 fg_Fi_9 (w78 _) rfl ?_
  refine ST.lift (fun _ _ k => T_iload d_Fi_isZero_22 rfl k) ?_
  refine S_laload d_Fi_isZero_24 a79 (vp_in_nI (by omega) (by omega)) (fun z5 => ?_)
  refine ST.lift (fun _ _ k => T_lor d_Fi_isZero_25 k) (S_anyl fun z6 => ?_)
  refine ST.lift (fun _ _ k => T_lstore_n (L' := [(2, .long z6), (4, .int (nI 2)), (0, .ref 78), (1, .ref f)]) d_Fi_isZero_26 (by decide) rfl k) ?_
  refine S_iincN (a := 2) (b := 1) (L' := [(4, .int (nI 3)), (2, .long z6), (0, .ref 78), (1, .ref f)]) d_Fi_isZero_27 (by decide) rfl rfl rfl ?_
  refine ST.lift (fun _ _ k => T_goto (tgt := 10) d_Fi_isZero_30 rfl k) ?_
  refine ST.lift (fun _ _ k => T_iload d_Fi_isZero_10 rfl k) ?_
  refine ST.lift (fun _ _ k => T_bipush (v := nI 10) d_Fi_isZero_12 (by decide) k) ?_
  refine S_icmp_geN d_Fi_isZero_14 rfl (by omega) (by omega) (fun c => by first | exact absurd c (by omega) | exact c.elim | exact absurd c (by decide) | exact absurd (by assumption) c | exact absurd c (by assumption)) (fun _ => ?_)
  refine ST.lift (fun _ _ k => T_lload_n d_Fi_isZero_17 rfl k) ?_
  refine ST.lift (fun _ _ k => T_aload_n (v := .ref 78) d_Fi_isZero_18 rfl (Or.inr ⟨_, rfl⟩) k) ?_
  refine S_getfield d_Fi_isZero_19 fg_Fi_9 (w78 _) rfl ?_
  refine ST.lift (fun _ _ k => T_iload d_Fi_isZero_22 rfl k) ?_
  refine S_laload d_Fi_isZero_24 a79 (vp_in_nI (by omega) (by omega)) (fun z7 => ?_)
  refine ST.lift (fun _ _ k => T_lor d_Fi_isZero_25 k) (S_anyl fun z8 => ?_)
  refine ST.lift (fun _ _ k => T_lstore_n (L' := [(2, .long z8), (4, .int (nI 3)), (0, .ref 78), (1, .ref f)]) d_Fi_isZero_26 (by decide) rfl k) ?_
  refine S_iincN (a := 3) (b := 1) (L' := [(4, .int (nI 4)), (2, .long z8), (0, .ref 78), (1, .ref f)]) d_Fi_isZero_27 (by decide) rfl rfl rfl ?_
  refine ST.lift (fun _ _ k => T_goto (tgt := 10) d_Fi_isZero_30 rfl k) ?_
  refine ST.lift (fun _ _ k => T_iload d_Fi_isZero_10 rfl k) ?_
  refine ST.lift (fun _ _ k => T_bipush (v := nI 10) d_Fi_isZero_12 (by decide) k) ?_
  refine S_icmp_geN d_Fi_isZero_14 rfl (by omega) (by omega) (fun c => by first | exact absurd c (by omega) | exact c.elim | exact absurd c (by decide) | exact absurd (by assumption) c | exact absurd c (by assumption)) (fun _ => ?_)
  refine ST.lift (fun _ _ k => T_lload_n d_Fi_isZero_17 rfl k) ?_
  refine ST.lift (fun _ _ k => T_aload_n (v := .ref 78) d_Fi_isZero_18 rfl (Or.inr ⟨_, rfl⟩) k) ?_
  refine S_getfield d_Fi_isZero_19 fg_Fi_9 (w78 _) rfl ?_
  refine ST.lift (fun _ _ k => T_iload d_Fi_isZero_22 rfl k) ?_
  refine S_laload d_Fi_isZero_24 a79 (vp_in_nI (by omega) (by omega)) (fun z9 => ?_)
  refine ST.lift (fun _ _ k => T_lor d_Fi_isZero_25 k) (S_anyl fun z10 => ?_)
  refine ST.lift (fun _ _ k => T_lstore_n (L' := [(2, .long z10), (4, .int (nI 4)), (0, .ref 78), (1, .ref f)]) d_Fi_isZero_26 (by decide) rfl k) ?_
  refine S_iincN (a := 4) (b := 1) (L' := [(4, .int (nI 5)), (2, .long z10), (0, .ref 78), (1, .ref f)]) d_Fi_isZero_27 (by decide) rfl rfl rfl ?_
  refine ST.lift (fun _ _ k => T_goto (tgt := 10) d_Fi_isZero_30 rfl k) ?_
  refine ST.lift (fun _ _ k => T_iload d_Fi_isZero_10 rfl k) ?_
  refine ST.lift (fun _ _ k => T_bipush (v := nI 10) d_Fi_isZero_12 (by decide) k) ?_
  refine S_icmp_geN d_Fi_isZero_14 rfl (by omega) (by omega) (fun c => by first | exact absurd c (by omega) | exact c.elim | exact absurd c (by decide) | exact absurd (by assumption) c | exact absurd c (by assumption)) (fun _ => ?_)
  refine ST.lift (fun _ _ k => T_lload_n d_Fi_isZero_17 rfl k) ?_
  refine ST.lift (fun _ _ k => T_aload_n (v := .ref 78) d_Fi_isZero_18 rfl (Or.inr ⟨_, rfl⟩) k) ?_
  refine S_getfield d_Fi_isZero_19 fg_Fi_9 (w78 _) rfl ?_
  refine ST.lift (fun _ _ k => T_iload d_Fi_isZero_22 rfl k) ?_
  refine S_laload d_Fi_isZero_24 a79 (vp_in_nI (by omega) (by omega)) (fun z11 => ?_)
  refine ST.lift (fun _ _ k => T_lor d_Fi_isZero_25 k) (S_anyl fun z12 => ?_)
  refine ST.lift (fun _ _ k => T_lstore_n (L' := [(2, .long z12), (4, .int (nI 5)), (0, .ref 78), (1, .ref f)]) d_Fi_isZero_26 (by decide) rfl k) ?_
  refine S_iincN (a := 5) (b := 1) (L' := [(4, .int (nI 6)), (2, .long z12), (0, .ref 78), (1, .ref f)]) d_Fi_isZero_27 (by decide) rfl rfl rfl ?_
  refine ST.lift (fun _ _ k => T_goto (tgt := 10) d_Fi_isZero_30 rfl k) ?_
  refine ST.lift (fun _ _ k => T_iload d_Fi_isZero_10 rfl k) ?_
  refine ST.lift (fun _ _ k => T_bipush (v := nI 10) d_Fi_isZero_12 (by decide) k) ?_
  refine S_icmp_geN d_Fi_isZero_14 rfl (by omega) (by omega) (fun c => by first | exact absurd c (by omega) | exact c.elim | exact absurd c (by decide) | exact absurd (by assumption) c | exact absurd c (by assumption)) (fun _ => ?_)
  refine ST.lift (fun _ _ k => T_lload_n d_Fi_isZero_17 rfl k) ?_
  refine ST.lift (fun _ _ k => T_aload_n (v := .ref 78) d_Fi_isZero_18 rfl (Or.inr ⟨_, rfl⟩) k) ?_
  refine S_getfield d_Fi_isZero_19 fg_Fi_9 (w78 _) rfl ?_
  refine ST.lift (fun _ _ k => T_iload d_Fi_isZero_22 rfl k) ?_
  refine S_laload d_Fi_isZero_24 a79 (vp_in_nI (by omega) (by omega)) (fun z13 => ?_)
  refine ST.lift (fun _ _ k => T_lor d_Fi_isZero_25 k) (S_anyl fun z14 => ?_)
  refine ST.lift (fun _ _ k => T_lstore_n (L' := [(2, .long z14), (4, .int (nI 6)), (0, .ref 78), (1, .ref f)]) d_Fi_isZero_26 (by decide) rfl k) ?_
  refine S_iincN (a := 6) (b := 1) (L' := [(4, .int (nI 7)), (2, .long z14), (0, .ref 78), (1, .ref f)]) d_Fi_isZero_27 (by decide) rfl rfl rfl ?_
  refine ST.lift (fun _ _ k => T_goto (tgt := 10) d_Fi_isZero_30 rfl k) ?_
  refine ST.lift (fun _ _ k => T_iload d_Fi_isZero_10 rfl k) ?_
  refine ST.lift (fun _ _ k => T_bipush (v := nI 10) d_Fi_isZero_12 (by decide) k) ?_
  refine S_icmp_geN d_Fi_isZero_14 rfl (by omega) (by omega) (fun c => by first | exact absurd c (by omega) | exact c.elim | exact absurd c (by decide) | exact absurd (by assumption) c | exact absurd c (by assumption)) (fun _ => ?_)
  refine ST.lift (fun _ _ k => T_lload_n d_Fi_isZero_17 rfl k) ?_
  refine ST.lift (fun _ _ k => T_aload_n (v := .ref 78) d_Fi_isZero_18 rfl (Or.inr ⟨_, rfl⟩) k) ?_
  refine S_getfield d_Fi_isZero_19 fg_Fi_9 (w78 _) rfl ?_
  refine ST.lift (fun _ _ k => T_iload d_Fi_isZero_22 rfl k) ?_
  refine S_laload d_Fi_isZero_24 a79 (vp_in_nI (by omega) (by omega)) (fun z15 => ?_)
  refine ST.lift (fun _ _ k => T_lor d_Fi_isZero_25 k) (S_anyl fun z16 => ?_)
  refine ST.lift (fun _ _ k => T_lstore_n (L' := [(2, .long z16), (4, .int (nI 7)), (0, .ref 78), (1, .ref f)]) d_Fi_isZero_26 (by decide) rfl k) ?_
  refine S_iincN (a := 7) (b := 1) (L' := [(4, .int (nI 8)), (2, .long z16), (0, .ref 78), (1, .ref f)]) d_Fi_isZero_27 (by decide) rfl rfl rfl ?_
  refine ST.lift (fun _ _ k => T_goto (tgt := 10) d_Fi_isZero_30 rfl k) ?_
  refine ST.lift (fun _ _ k => T_iload d_Fi_isZero_10 rfl k) ?_
  refine ST.lift (fun _ _ k => T_bipush (v := nI 10) d_Fi_isZero_12 (by decide) k) ?_
  refine S_icmp_geN d_Fi_isZero_14 rfl (by omega) (by omega) (fun c => by first | exact absurd c (by omega) | exact c.elim | exact absurd c (by decide) | exact absurd (by assumption) c | exact absurd c (by assumption)) (fun _ => ?_)
  refine ST.lift (fun _ _ k => T_lload_n d_Fi_isZero_17 rfl k) ?_
  refine ST.lift (fun _ _ k => T_aload_n (v := .ref 78) d_Fi_isZero_18 rfl (Or.inr ⟨_, rfl⟩) k) ?_
  refine S_getfield d_Fi_isZero_19 fg_Fi_9 (w78 _) rfl ?_
  refine ST.lift (fun _ _ k => T_iload d_Fi_isZero_22 rfl k) ?_
  refine S_laload d_Fi_isZero_24 a79 (vp_in_nI (by omega) (by omega)) (fun z17 => ?_)
  refine ST.lift (fun _ _ k => T_lor d_Fi_isZero_25 k) (S_anyl fun z18 => ?_)
  refine ST.lift (fun _ _ k => T_lstore_n (L' := [(2, .long z18), (4, .int (nI 8)), (0, .ref 78), (1, .ref f)]) d_Fi_isZero_26 (by decide) rfl k) ?_
  refine S_iincN (a := 8) (b := 1) (L' := [(4, .int (nI 9)), (2, .long z18), (0, .ref 78), (1, .ref f)]) d_Fi_isZero_27 (by decide) rfl rfl rfl ?_
  refine ST.lift (fun _ _ k => T_goto (tgt := 10) d_Fi_isZero_30 rfl k) ?_
  refine ST.lift (fun _ _ k => T_iload d_Fi_isZero_10 rfl k) ?_
  refine ST.lift (fun _ _ k => T_bipush (v := nI 10) d_Fi_isZero_12 (by decide) k) ?_
  refine S_icmp_geN d_Fi_isZero_14 rfl (by omega) (by omega) (fun c => by first | exact absurd c (by omega) | exact c.elim | exact absurd c (by decide) | exact absurd (by assumption) c | exact absurd c (by assumption)) (fun _ => ?_)
  refine ST.lift (fun _ _ k => T_lload_n d_Fi_isZero_17 rfl k) ?_
  refine ST.lift (fun _ _ k => T_aload_n (v := .ref 78) d_Fi_isZero_18 rfl (Or.inr ⟨_, rfl⟩) k) ?_
  refine S_getfield d_Fi_isZero_19 fg_Fi_9 (w78 _) rfl ?_
  refine ST.lift (fun _ _ k => T_iload d_Fi_isZero_22 rfl k) ?_
  refine S_laload d_Fi_isZero_24 a79 (vp_in_nI (by omega) (by omega)) (fun z19 => ?_)
  refine ST.lift (fun _ _ k => T_lor d_Fi_isZero_25 k) (S_anyl fun z20 => ?_)
  refine ST.lift (fun _ _ k => T_lstore_n (L' := [(2, .long z20), (4, .int (nI 9)), (0, .ref 78), (1, .ref f)]) d_Fi_isZero_26 (by decide) rfl k) ?_
  refine S_iincN (a := 9) (b := 1) (L' := [(4, .int (nI 10)), (2, .long z20), (0, .ref 78), (1, .ref f)]) d_Fi_isZero_27 (by decide) rfl rfl rfl ?_
  refine ST.lift (fun _ _ k => T_goto (tgt := 10) d_Fi_isZero_30 rfl k) ?_
  refine ST.lift (fun _ _ k => T_iload d_Fi_isZero_10 rfl k) ?_
  refine ST.lift (fun _ _ k => T_bipush (v := nI 10) d_Fi_isZero_12 (by decide) k) ?_
  refine S_icmp_geN d_Fi_isZero_14 rfl (by omega) (by omega) (fun _ => ?_) (fun c => by first | exact absurd c (by omega) | exact c.elim | exact absurd c (by decide) | exact absurd (by assumption) c | exact absurd c (by assumption))
  refine ST.lift (fun _ _ k => T_lload_n d_Fi_isZero_33 rfl k) ?_
  refine ST.lift (fun _ _ k => T_lconst (v := 0) d_Fi_isZero_34 (by decide) k) ?_
  refine ST.lift (fun _ _ k => T_lcmp d_Fi_isZero_35 k) (S_anyi fun z21 => ?_)
  refine S_if_ne d_Fi_isZero_36 rfl (fun c22 => ?_) (fun c22 => ?_)
  · refine ST.lift (fun _ _ k => T_iconst (v := nI 0) d_Fi_isZero_43 (by decide) k) ?_
    exact S_ret d_Fi_isZero_44 rfl (by decide) (by decide) (by decide) (hQ 0 (by decide))
  · refine ST.lift (fun _ _ k => T_iconst (v := nI 1) d_Fi_isZero_39 (by decide) k) ?_
    refine ST.lift (fun _ _ k => T_goto (tgt := 44) d_Fi_isZero_40 rfl k) ?_
    exact S_ret d_Fi_isZero_44 rfl (by decide) (by decide) (by decide) (hQ 1 (by decide))
set_option maxRecDepth 100000 in
set_option maxHeartbeats 4000000 in
theorem c_Fi_raise (G : GX) (v : Nat → Int32) (to : Nat) (w_to : K0 ≤ to) (a_to : aL to 10) (z : Nat) (a_z : aL z 10) : CS G mi_Fi_raise [.ref 78, .ref to, .ref z] v (fun r v' => r = none ∧ v' = v) := by
  refine CS.of (by decide) (Nat.le_of_ble_eq_true rfl) ?_
  generalize hQe : (fun (r : Option Value) (v' : Nat → Int32) => r = none ∧ v' = v) = Q
  have hQ : Q none v := by rw [← hQe]; exact ⟨rfl, rfl⟩
  clear hQe
  show ST G mi_Fi_raise 0 [(0, .ref 78), (1, .ref to), (2, .ref z)] [] v 0 0 Q
  refine ST.lift (fun _ _ k => T_aload_n (v := .ref 78) d_Fi_raise_0 rfl (Or.inr ⟨_, rfl⟩) k) ?_
  refine S_getfield d_Fi_raise_1 fg_Fi_16 (w78 _) rfl ?_
  refine ST.lift (fun _ _ k => T_aload_n (v := .ref z) d_Fi_raise_4 rfl (Or.inr ⟨_, rfl⟩) k) ?_
  refine ST.lift (fun _ _ k => T_iconst (v := nI 1) d_Fi_raise_5 (by decide) k) ?_
  refine S_static (as := [.ref 81, .ref z, .int (nI 1)]) (rest := []) d_Fi_raise_6 rfl (jw_Fi_square.jo (by decide)) lm_Fi_53 jt_Fi_square rfl (Nat.le_of_ble_eq_true rfl) (by decide) (by decide) (c_Fi_square G v 81 (by decide) a81 z a_z 1 (by omega)) (fun r v' hq => ?_)
  rw [hq.1, hq.2]
  clear hq r v'
  show ST G mi_Fi_raise 9 [(0, .ref 78), (1, .ref to), (2, .ref z)] [] v 0 0 _
  refine ST.lift (fun _ _ k => T_aload_n (v := .ref 78) d_Fi_raise_9 rfl (Or.inr ⟨_, rfl⟩) k) ?_
  refine S_getfield d_Fi_raise_10 fg_Fi_19 (w78 _) rfl ?_
  refine ST.lift (fun _ _ k => T_aload_n (v := .ref 78) d_Fi_raise_13 rfl (Or.inr ⟨_, rfl⟩) k) ?_
  refine S_getfield d_Fi_raise_14 fg_Fi_16 (w78 _) rfl ?_
  refine ST.lift (fun _ _ k => T_iconst (v := nI 2) d_Fi_raise_17 (by decide) k) ?_
  refine S_static (as := [.ref 82, .ref 81, .int (nI 2)]) (rest := []) d_Fi_raise_18 rfl (jw_Fi_square.jo (by decide)) lm_Fi_53 jt_Fi_square rfl (Nat.le_of_ble_eq_true rfl) (by decide) (by decide) (c_Fi_square G v 82 (by decide) a82 81 a81 2 (by omega)) (fun r v' hq => ?_)
  rw [hq.1, hq.2]
  clear hq r v'
  show ST G mi_Fi_raise 21 [(0, .ref 78), (1, .ref to), (2, .ref z)] [] v 0 0 _
  refine ST.lift (fun _ _ k => T_aload_n (v := .ref 78) d_Fi_raise_21 rfl (Or.inr ⟨_, rfl⟩) k) ?_
  refine S_getfield d_Fi_raise_22 fg_Fi_19 (w78 _) rfl ?_
  refine ST.lift (fun _ _ k => T_aload_n (v := .ref 78) d_Fi_raise_25 rfl (Or.inr ⟨_, rfl⟩) k) ?_
  refine S_getfield d_Fi_raise_26 fg_Fi_19 (w78 _) rfl ?_
  refine ST.lift (fun _ _ k => T_aload_n (v := .ref z) d_Fi_raise_29 rfl (Or.inr ⟨_, rfl⟩) k) ?_
  refine S_static (as := [.ref 82, .ref 82, .ref z]) (rest := []) d_Fi_raise_30 rfl (jw_Fi_multiply.jo (by decide)) lm_Fi_57 jt_Fi_multiply rfl (Nat.le_of_ble_eq_true rfl) (by decide) (by decide) (c_Fi_multiply G v 82 (by decide) a82 82 a82 z a_z) (fun r v' hq => ?_)
  rw [hq.1, hq.2]
  clear hq r v'
  show ST G mi_Fi_raise 33 [(0, .ref 78), (1, .ref to), (2, .ref z)] [] v 0 0 _
  refine ST.lift (fun _ _ k => T_aload_n (v := .ref 78) d_Fi_raise_33 rfl (Or.inr ⟨_, rfl⟩) k) ?_
  refine S_getfield d_Fi_raise_34 fg_Fi_16 (w78 _) rfl ?_
  refine ST.lift (fun _ _ k => T_aload_n (v := .ref 78) d_Fi_raise_37 rfl (Or.inr ⟨_, rfl⟩) k) ?_
  refine S_getfield d_Fi_raise_38 fg_Fi_16 (w78 _) rfl ?_
  refine ST.lift (fun _ _ k => T_aload_n (v := .ref 78) d_Fi_raise_41 rfl (Or.inr ⟨_, rfl⟩) k) ?_
  refine S_getfield d_Fi_raise_42 fg_Fi_19 (w78 _) rfl ?_
  refine S_static (as := [.ref 81, .ref 81, .ref 82]) (rest := []) d_Fi_raise_45 rfl (jw_Fi_multiply.jo (by decide)) lm_Fi_57 jt_Fi_multiply rfl (Nat.le_of_ble_eq_true rfl) (by decide) (by decide) (c_Fi_multiply G v 81 (by decide) a81 81 a81 82 a82) (fun r v' hq => ?_)
  rw [hq.1, hq.2]
  clear hq r v'
  show ST G mi_Fi_raise 48 [(0, .ref 78), (1, .ref to), (2, .ref z)] [] v 0 0 _
  refine ST.lift (fun _ _ k => T_aload_n (v := .ref 78) d_Fi_raise_48 rfl (Or.inr ⟨_, rfl⟩) k) ?_
  refine S_getfield d_Fi_raise_49 fg_Fi_16 (w78 _) rfl ?_
  refine ST.lift (fun _ _ k => T_aload_n (v := .ref 78) d_Fi_raise_52 rfl (Or.inr ⟨_, rfl⟩) k) ?_
  refine S_getfield d_Fi_raise_53 fg_Fi_16 (w78 _) rfl ?_
  refine ST.lift (fun _ _ k => T_iconst (v := nI 1) d_Fi_raise_56 (by decide) k) ?_
  refine S_static (as := [.ref 81, .ref 81, .int (nI 1)]) (rest := []) d_Fi_raise_57 rfl (jw_Fi_square.jo (by decide)) lm_Fi_53 jt_Fi_square rfl (Nat.le_of_ble_eq_true rfl) (by decide) (by decide) (c_Fi_square G v 81 (by decide) a81 81 a81 1 (by omega)) (fun r v' hq => ?_)
  rw [hq.1, hq.2]
  clear hq r v'
  show ST G mi_Fi_raise 60 [(0, .ref 78), (1, .ref to), (2, .ref z)] [] v 0 0 _
  refine ST.lift (fun _ _ k => T_aload_n (v := .ref 78) d_Fi_raise_60 rfl (Or.inr ⟨_, rfl⟩) k) ?_
  refine S_getfield d_Fi_raise_61 fg_Fi_16 (w78 _) rfl ?_
  refine ST.lift (fun _ _ k => T_aload_n (v := .ref 78) d_Fi_raise_64 rfl (Or.inr ⟨_, rfl⟩) k) ?_
  refine S_getfield d_Fi_raise_65 fg_Fi_16 (w78 _) rfl ?_
  refine ST.lift (fun _ _ k => T_aload_n (v := .ref 78) d_Fi_raise_68 rfl (Or.inr ⟨_, rfl⟩) k) ?_
  refine S_getfield d_Fi_raise_69 fg_Fi_19 (w78 _) rfl ?_
  refine S_static (as := [.ref 81, .ref 81, .ref 82]) (rest := []) d_Fi_raise_72 rfl (jw_Fi_multiply.jo (by decide)) lm_Fi_57 jt_Fi_multiply rfl (Nat.le_of_ble_eq_true rfl) (by decide) (by decide) (c_Fi_multiply G v 81 (by decide) a81 81 a81 82 a82) (fun r v' hq => ?_)
  rw [hq.1, hq.2]
  clear hq r v'
  show ST G mi_Fi_raise 75 [(0, .ref 78), (1, .ref to), (2, .ref z)] [] v 0 0 _
  refine ST.lift (fun _ _ k => T_aload_n (v := .ref 78) d_Fi_raise_75 rfl (Or.inr ⟨_, rfl⟩) k) ?_
  refine S_getfield d_Fi_raise_76 fg_Fi_19 (w78 _) rfl ?_
  refine ST.lift (fun _ _ k => T_aload_n (v := .ref 78) d_Fi_raise_79 rfl (Or.inr ⟨_, rfl⟩) k) ?_
  refine S_getfield d_Fi_raise_80 fg_Fi_16 (w78 _) rfl ?_
  refine ST.lift (fun _ _ k => T_iconst (v := nI 5) d_Fi_raise_83 (by decide) k) ?_
  refine S_static (as := [.ref 82, .ref 81, .int (nI 5)]) (rest := []) d_Fi_raise_84 rfl (jw_Fi_square.jo (by decide)) lm_Fi_53 jt_Fi_square rfl (Nat.le_of_ble_eq_true rfl) (by decide) (by decide) (c_Fi_square G v 82 (by decide) a82 81 a81 5 (by omega)) (fun r v' hq => ?_)
  rw [hq.1, hq.2]
  clear hq r v'
  show ST G mi_Fi_raise 87 [(0, .ref 78), (1, .ref to), (2, .ref z)] [] v 0 0 _
  refine ST.lift (fun _ _ k => T_aload_n (v := .ref 78) d_Fi_raise_87 rfl (Or.inr ⟨_, rfl⟩) k) ?_
  refine S_getfield d_Fi_raise_88 fg_Fi_16 (w78 _) rfl ?_
  refine ST.lift (fun _ _ k => T_aload_n (v := .ref 78) d_Fi_raise_91 rfl (Or.inr ⟨_, rfl⟩) k) ?_
  refine S_getfield d_Fi_raise_92 fg_Fi_19 (w78 _) rfl ?_
  refine ST.lift (fun _ _ k => T_aload_n (v := .ref 78) d_Fi_raise_95 rfl (Or.inr ⟨_, rfl⟩) k) ?_
  refine S_getfield d_Fi_raise_96 fg_Fi_16 (w78 _) rfl ?_
  refine S_static (as := [.ref 81, .ref 82, .ref 81]) (rest := []) d_Fi_raise_99 rfl (jw_Fi_multiply.jo (by decide)) lm_Fi_57 jt_Fi_multiply rfl (Nat.le_of_ble_eq_true rfl) (by decide) (by decide) (c_Fi_multiply G v 81 (by decide) a81 82 a82 81 a81) (fun r v' hq => ?_)
  rw [hq.1, hq.2]
  clear hq r v'
  show ST G mi_Fi_raise 102 [(0, .ref 78), (1, .ref to), (2, .ref z)] [] v 0 0 _
  refine ST.lift (fun _ _ k => T_aload_n (v := .ref 78) d_Fi_raise_102 rfl (Or.inr ⟨_, rfl⟩) k) ?_
  refine S_getfield d_Fi_raise_103 fg_Fi_19 (w78 _) rfl ?_
  refine ST.lift (fun _ _ k => T_aload_n (v := .ref 78) d_Fi_raise_106 rfl (Or.inr ⟨_, rfl⟩) k) ?_
  refine S_getfield d_Fi_raise_107 fg_Fi_16 (w78 _) rfl ?_
  refine ST.lift (fun _ _ k => T_bipush (v := nI 10) d_Fi_raise_110 (by decide) k) ?_
  refine S_static (as := [.ref 82, .ref 81, .int (nI 10)]) (rest := []) d_Fi_raise_112 rfl (jw_Fi_square.jo (by decide)) lm_Fi_53 jt_Fi_square rfl (Nat.le_of_ble_eq_true rfl) (by decide) (by decide) (c_Fi_square G v 82 (by decide) a82 81 a81 10 (by omega)) (fun r v' hq => ?_)
  rw [hq.1, hq.2]
  clear hq r v'
  show ST G mi_Fi_raise 115 [(0, .ref 78), (1, .ref to), (2, .ref z)] [] v 0 0 _
  refine ST.lift (fun _ _ k => T_aload_n (v := .ref 78) d_Fi_raise_115 rfl (Or.inr ⟨_, rfl⟩) k) ?_
  refine S_getfield d_Fi_raise_116 fg_Fi_19 (w78 _) rfl ?_
  refine ST.lift (fun _ _ k => T_aload_n (v := .ref 78) d_Fi_raise_119 rfl (Or.inr ⟨_, rfl⟩) k) ?_
  refine S_getfield d_Fi_raise_120 fg_Fi_19 (w78 _) rfl ?_
  refine ST.lift (fun _ _ k => T_aload_n (v := .ref 78) d_Fi_raise_123 rfl (Or.inr ⟨_, rfl⟩) k) ?_
  refine S_getfield d_Fi_raise_124 fg_Fi_16 (w78 _) rfl ?_
  refine S_static (as := [.ref 82, .ref 82, .ref 81]) (rest := []) d_Fi_raise_127 rfl (jw_Fi_multiply.jo (by decide)) lm_Fi_57 jt_Fi_multiply rfl (Nat.le_of_ble_eq_true rfl) (by decide) (by decide) (c_Fi_multiply G v 82 (by decide) a82 82 a82 81 a81) (fun r v' hq => ?_)
  rw [hq.1, hq.2]
  clear hq r v'
  show ST G mi_Fi_raise 130 [(0, .ref 78), (1, .ref to), (2, .ref z)] [] v 0 0 _
  refine ST.lift (fun _ _ k => T_aload_n (v := .ref 78) d_Fi_raise_130 rfl (Or.inr ⟨_, rfl⟩) k) ?_
  refine S_getfield d_Fi_raise_131 fg_Fi_22 (w78 _) rfl ?_
  refine ST.lift (fun _ _ k => T_aload_n (v := .ref 78) d_Fi_raise_134 rfl (Or.inr ⟨_, rfl⟩) k) ?_
  refine S_getfield d_Fi_raise_135 fg_Fi_19 (w78 _) rfl ?_
  refine ST.lift (fun _ _ k => T_bipush (v := nI 20) d_Fi_raise_138 (by decide) k) ?_
  refine S_static (as := [.ref 83, .ref 82, .int (nI 20)]) (rest := []) d_Fi_raise_140 rfl (jw_Fi_square.jo (by decide)) lm_Fi_53 jt_Fi_square rfl (Nat.le_of_ble_eq_true rfl) (by decide) (by decide) (c_Fi_square G v 83 (by decide) a83 82 a82 20 (by omega)) (fun r v' hq => ?_)
  rw [hq.1, hq.2]
  clear hq r v'
  show ST G mi_Fi_raise 143 [(0, .ref 78), (1, .ref to), (2, .ref z)] [] v 0 0 _
  refine ST.lift (fun _ _ k => T_aload_n (v := .ref 78) d_Fi_raise_143 rfl (Or.inr ⟨_, rfl⟩) k) ?_
  refine S_getfield d_Fi_raise_144 fg_Fi_19 (w78 _) rfl ?_
  refine ST.lift (fun _ _ k => T_aload_n (v := .ref 78) d_Fi_raise_147 rfl (Or.inr ⟨_, rfl⟩) k) ?_
  refine S_getfield d_Fi_raise_148 fg_Fi_22 (w78 _) rfl ?_
  refine ST.lift (fun _ _ k => T_aload_n (v := .ref 78) d_Fi_raise_151 rfl (Or.inr ⟨_, rfl⟩) k) ?_
  refine S_getfield d_Fi_raise_152 fg_Fi_19 (w78 _) rfl ?_
  refine S_static (as := [.ref 82, .ref 83, .ref 82]) (rest := []) d_Fi_raise_155 rfl (jw_Fi_multiply.jo (by decide)) lm_Fi_57 jt_Fi_multiply rfl (Nat.le_of_ble_eq_true rfl) (by decide) (by decide) (c_Fi_multiply G v 82 (by decide) a82 83 a83 82 a82) (fun r v' hq => ?_)
  rw [hq.1, hq.2]
  clear hq r v'
  show ST G mi_Fi_raise 158 [(0, .ref 78), (1, .ref to), (2, .ref z)] [] v 0 0 _
  refine ST.lift (fun _ _ k => T_aload_n (v := .ref 78) d_Fi_raise_158 rfl (Or.inr ⟨_, rfl⟩) k) ?_
  refine S_getfield d_Fi_raise_159 fg_Fi_19 (w78 _) rfl ?_
  refine ST.lift (fun _ _ k => T_aload_n (v := .ref 78) d_Fi_raise_162 rfl (Or.inr ⟨_, rfl⟩) k) ?_
  refine S_getfield d_Fi_raise_163 fg_Fi_19 (w78 _) rfl ?_
  refine ST.lift (fun _ _ k => T_bipush (v := nI 10) d_Fi_raise_166 (by decide) k) ?_
  refine S_static (as := [.ref 82, .ref 82, .int (nI 10)]) (rest := []) d_Fi_raise_168 rfl (jw_Fi_square.jo (by decide)) lm_Fi_53 jt_Fi_square rfl (Nat.le_of_ble_eq_true rfl) (by decide) (by decide) (c_Fi_square G v 82 (by decide) a82 82 a82 10 (by omega)) (fun r v' hq => ?_)
  rw [hq.1, hq.2]
  clear hq r v'
  show ST G mi_Fi_raise 171 [(0, .ref 78), (1, .ref to), (2, .ref z)] [] v 0 0 _
  refine ST.lift (fun _ _ k => T_aload_n (v := .ref 78) d_Fi_raise_171 rfl (Or.inr ⟨_, rfl⟩) k) ?_
  refine S_getfield d_Fi_raise_172 fg_Fi_16 (w78 _) rfl ?_
  refine ST.lift (fun _ _ k => T_aload_n (v := .ref 78) d_Fi_raise_175 rfl (Or.inr ⟨_, rfl⟩) k) ?_
  refine S_getfield d_Fi_raise_176 fg_Fi_19 (w78 _) rfl ?_
  refine ST.lift (fun _ _ k => T_aload_n (v := .ref 78) d_Fi_raise_179 rfl (Or.inr ⟨_, rfl⟩) k) ?_
  refine S_getfield d_Fi_raise_180 fg_Fi_16 (w78 _) rfl ?_
  refine S_static (as := [.ref 81, .ref 82, .ref 81]) (rest := []) d_Fi_raise_183 rfl (jw_Fi_multiply.jo (by decide)) lm_Fi_57 jt_Fi_multiply rfl (Nat.le_of_ble_eq_true rfl) (by decide) (by decide) (c_Fi_multiply G v 81 (by decide) a81 82 a82 81 a81) (fun r v' hq => ?_)
  rw [hq.1, hq.2]
  clear hq r v'
  show ST G mi_Fi_raise 186 [(0, .ref 78), (1, .ref to), (2, .ref z)] [] v 0 0 _
  refine ST.lift (fun _ _ k => T_aload_n (v := .ref 78) d_Fi_raise_186 rfl (Or.inr ⟨_, rfl⟩) k) ?_
  refine S_getfield d_Fi_raise_187 fg_Fi_19 (w78 _) rfl ?_
  refine ST.lift (fun _ _ k => T_aload_n (v := .ref 78) d_Fi_raise_190 rfl (Or.inr ⟨_, rfl⟩) k) ?_
  refine S_getfield d_Fi_raise_191 fg_Fi_16 (w78 _) rfl ?_
  refine ST.lift (fun _ _ k => T_bipush (v := nI 50) d_Fi_raise_194 (by decide) k) ?_
  refine S_static (as := [.ref 82, .ref 81, .int (nI 50)]) (rest := []) d_Fi_raise_196 rfl (jw_Fi_square.jo (by decide)) lm_Fi_53 jt_Fi_square rfl (Nat.le_of_ble_eq_true rfl) (by decide) (by decide) (c_Fi_square G v 82 (by decide) a82 81 a81 50 (by omega)) (fun r v' hq => ?_)
  rw [hq.1, hq.2]
  clear hq r v'
  show ST G mi_Fi_raise 199 [(0, .ref 78), (1, .ref to), (2, .ref z)] [] v 0 0 _
  refine ST.lift (fun _ _ k => T_aload_n (v := .ref 78) d_Fi_raise_199 rfl (Or.inr ⟨_, rfl⟩) k) ?_
  refine S_getfield d_Fi_raise_200 fg_Fi_19 (w78 _) rfl ?_
  refine ST.lift (fun _ _ k => T_aload_n (v := .ref 78) d_Fi_raise_203 rfl (Or.inr ⟨_, rfl⟩) k) ?_
  refine S_getfield d_Fi_raise_204 fg_Fi_19 (w78 _) rfl ?_
  refine ST.lift (fun _ _ k => T_aload_n (v := .ref 78) d_Fi_raise_207 rfl (Or.inr ⟨_, rfl⟩) k) ?_
  refine S_getfield d_Fi_raise_208 fg_Fi_16 (w78 _) rfl ?_
  refine S_static (as := [.ref 82, .ref 82, .ref 81]) (rest := []) d_Fi_raise_211 rfl (jw_Fi_multiply.jo (by decide)) lm_Fi_57 jt_Fi_multiply rfl (Nat.le_of_ble_eq_true rfl) (by decide) (by decide) (c_Fi_multiply G v 82 (by decide) a82 82 a82 81 a81) (fun r v' hq => ?_)
  rw [hq.1, hq.2]
  clear hq r v'
  show ST G mi_Fi_raise 214 [(0, .ref 78), (1, .ref to), (2, .ref z)] [] v 0 0 _
  refine ST.lift (fun _ _ k => T_aload_n (v := .ref 78) d_Fi_raise_214 rfl (Or.inr ⟨_, rfl⟩) k) ?_
  refine S_getfield d_Fi_raise_215 fg_Fi_22 (w78 _) rfl ?_
  refine ST.lift (fun _ _ k => T_aload_n (v := .ref 78) d_Fi_raise_218 rfl (Or.inr ⟨_, rfl⟩) k) ?_
  refine S_getfield d_Fi_raise_219 fg_Fi_19 (w78 _) rfl ?_
  refine ST.lift (fun _ _ k => T_bipush (v := nI 100) d_Fi_raise_222 (by decide) k) ?_
  refine S_static (as := [.ref 83, .ref 82, .int (nI 100)]) (rest := []) d_Fi_raise_224 rfl (jw_Fi_square.jo (by decide)) lm_Fi_53 jt_Fi_square rfl (Nat.le_of_ble_eq_true rfl) (by decide) (by decide) (c_Fi_square G v 83 (by decide) a83 82 a82 100 (by omega)) (fun r v' hq => ?_)
  rw [hq.1, hq.2]
  clear hq r v'
  show ST G mi_Fi_raise 227 [(0, .ref 78), (1, .ref to), (2, .ref z)] [] v 0 0 _
  refine ST.lift (fun _ _ k => T_aload_n (v := .ref 78) d_Fi_raise_227 rfl (Or.inr ⟨_, rfl⟩) k) ?_
  refine S_getfield d_Fi_raise_228 fg_Fi_19 (w78 _) rfl ?_
  refine ST.lift (fun _ _ k => T_aload_n (v := .ref 78) d_Fi_raise_231 rfl (Or.inr ⟨_, rfl⟩) k) ?_
  refine S_getfield d_Fi_raise_232 fg_Fi_22 (w78 _) rfl ?_
  refine ST.lift (fun _ _ k => T_aload_n (v := .ref 78) d_Fi_raise_235 rfl (Or.inr ⟨_, rfl⟩) k) ?_
  refine S_getfield d_Fi_raise_236 fg_Fi_19 (w78 _) rfl ?_
  refine S_static (as := [.ref 82, .ref 83, .ref 82]) (rest := []) d_Fi_raise_239 rfl (jw_Fi_multiply.jo (by decide)) lm_Fi_57 jt_Fi_multiply rfl (Nat.le_of_ble_eq_true rfl) (by decide) (by decide) (c_Fi_multiply G v 82 (by decide) a82 83 a83 82 a82) (fun r v' hq => ?_)
  rw [hq.1, hq.2]
  clear hq r v'
  show ST G mi_Fi_raise 242 [(0, .ref 78), (1, .ref to), (2, .ref z)] [] v 0 0 _
  refine ST.lift (fun _ _ k => T_aload_n (v := .ref 78) d_Fi_raise_242 rfl (Or.inr ⟨_, rfl⟩) k) ?_
  refine S_getfield d_Fi_raise_243 fg_Fi_19 (w78 _) rfl ?_
  refine ST.lift (fun _ _ k => T_aload_n (v := .ref 78) d_Fi_raise_246 rfl (Or.inr ⟨_, rfl⟩) k) ?_
  refine S_getfield d_Fi_raise_247 fg_Fi_19 (w78 _) rfl ?_
  refine ST.lift (fun _ _ k => T_bipush (v := nI 50) d_Fi_raise_250 (by decide) k) ?_
  refine S_static (as := [.ref 82, .ref 82, .int (nI 50)]) (rest := []) d_Fi_raise_252 rfl (jw_Fi_square.jo (by decide)) lm_Fi_53 jt_Fi_square rfl (Nat.le_of_ble_eq_true rfl) (by decide) (by decide) (c_Fi_square G v 82 (by decide) a82 82 a82 50 (by omega)) (fun r v' hq => ?_)
  rw [hq.1, hq.2]
  clear hq r v'
  show ST G mi_Fi_raise 255 [(0, .ref 78), (1, .ref to), (2, .ref z)] [] v 0 0 _
  refine ST.lift (fun _ _ k => T_aload_n (v := .ref 78) d_Fi_raise_255 rfl (Or.inr ⟨_, rfl⟩) k) ?_
  refine S_getfield d_Fi_raise_256 fg_Fi_16 (w78 _) rfl ?_
  refine ST.lift (fun _ _ k => T_aload_n (v := .ref 78) d_Fi_raise_259 rfl (Or.inr ⟨_, rfl⟩) k) ?_
  refine S_getfield d_Fi_raise_260 fg_Fi_19 (w78 _) rfl ?_
  refine ST.lift (fun _ _ k => T_aload_n (v := .ref 78) d_Fi_raise_263 rfl (Or.inr ⟨_, rfl⟩) k) ?_
  refine S_getfield d_Fi_raise_264 fg_Fi_16 (w78 _) rfl ?_
  refine S_static (as := [.ref 81, .ref 82, .ref 81]) (rest := []) d_Fi_raise_267 rfl (jw_Fi_multiply.jo (by decide)) lm_Fi_57 jt_Fi_multiply rfl (Nat.le_of_ble_eq_true rfl) (by decide) (by decide) (c_Fi_multiply G v 81 (by decide) a81 82 a82 81 a81) (fun r v' hq => ?_)
  rw [hq.1, hq.2]
  clear hq r v'
  show ST G mi_Fi_raise 270 [(0, .ref 78), (1, .ref to), (2, .ref z)] [] v 0 0 _
  refine ST.lift (fun _ _ k => T_aload_n (v := .ref 78) d_Fi_raise_270 rfl (Or.inr ⟨_, rfl⟩) k) ?_
  refine S_getfield d_Fi_raise_271 fg_Fi_16 (w78 _) rfl ?_
  refine ST.lift (fun _ _ k => T_aload_n (v := .ref 78) d_Fi_raise_274 rfl (Or.inr ⟨_, rfl⟩) k) ?_
  refine S_getfield d_Fi_raise_275 fg_Fi_16 (w78 _) rfl ?_
  refine ST.lift (fun _ _ k => T_iconst (v := nI 2) d_Fi_raise_278 (by decide) k) ?_
  refine S_static (as := [.ref 81, .ref 81, .int (nI 2)]) (rest := []) d_Fi_raise_279 rfl (jw_Fi_square.jo (by decide)) lm_Fi_53 jt_Fi_square rfl (Nat.le_of_ble_eq_true rfl) (by decide) (by decide) (c_Fi_square G v 81 (by decide) a81 81 a81 2 (by omega)) (fun r v' hq => ?_)
  rw [hq.1, hq.2]
  clear hq r v'
  show ST G mi_Fi_raise 282 [(0, .ref 78), (1, .ref to), (2, .ref z)] [] v 0 0 _
  refine ST.lift (fun _ _ k => T_aload_n (v := .ref to) d_Fi_raise_282 rfl (Or.inr ⟨_, rfl⟩) k) ?_
  refine ST.lift (fun _ _ k => T_aload_n (v := .ref 78) d_Fi_raise_283 rfl (Or.inr ⟨_, rfl⟩) k) ?_
  refine S_getfield d_Fi_raise_284 fg_Fi_16 (w78 _) rfl ?_
  refine ST.lift (fun _ _ k => T_aload_n (v := .ref z) d_Fi_raise_287 rfl (Or.inr ⟨_, rfl⟩) k) ?_
  refine S_static (as := [.ref to, .ref 81, .ref z]) (rest := []) d_Fi_raise_288 rfl (jw_Fi_multiply.jo (by decide)) lm_Fi_57 jt_Fi_multiply rfl (Nat.le_of_ble_eq_true rfl) (by decide) (by decide) (c_Fi_multiply G v to w_to a_to 81 a81 z a_z) (fun r v' hq => ?_)
  rw [hq.1, hq.2]
  clear hq r v'
  show ST G mi_Fi_raise 291 [(0, .ref 78), (1, .ref to), (2, .ref z)] [] v 0 0 _
  exact S_vret d_Fi_raise_291 rfl (by decide) (by decide) hQ
set_option maxRecDepth 100000 in
set_option maxHeartbeats 4000000 in
theorem c_Fi_root (G : GX) (v : Nat → Int32) (r : Nat) (w_r : K0 ≤ r) (a_r : aL r 10) (u : Nat) (a_u : aL u 10) (w : Nat) (a_w : aL w 10) : CS G mi_Fi_root [.ref 78, .ref r, .ref u, .ref w] v (fun r v' => ∃ z : Nat, z ≤ 1 ∧ r = some (.int (nI z)) ∧ v' = v) := by
  refine CS.of (by decide) (Nat.le_of_ble_eq_true rfl) ?_
  generalize hQe : (fun (r : Option Value) (v' : Nat → Int32) => ∃ z : Nat, z ≤ 1 ∧ r = some (.int (nI z)) ∧ v' = v) = Q
  have hQ : ∀ z : Nat, z ≤ 1 → Q (some (.int (nI z))) v := by rw [← hQe]; exact fun z hz => ⟨z, hz, rfl, rfl⟩
  clear hQe
  show ST G mi_Fi_root 0 [(0, .ref 78), (1, .ref r), (2, .ref u), (3, .ref w)] [] v 0 0 Q
  refine ST.lift (fun _ _ k => T_aload_n (v := .ref 78) d_Fi_root_0 rfl (Or.inr ⟨_, rfl⟩) k) ?_
  refine S_getfield d_Fi_root_1 fg_Fi_25 (w78 _) rfl ?_
  refine ST.lift (fun _ _ k => T_aload_n (v := .ref w) d_Fi_root_4 rfl (Or.inr ⟨_, rfl⟩) k) ?_
  refine ST.lift (fun _ _ k => T_iconst (v := nI 1) d_Fi_root_5 (by decide) k) ?_
  refine S_static (as := [.ref 84, .ref w, .int (nI 1)]) (rest := []) d_Fi_root_6 rfl (jw_Fi_square.jo (by decide)) lm_Fi_53 jt_Fi_square rfl (Nat.le_of_ble_eq_true rfl) (by decide) (by decide) (c_Fi_square G v 84 (by decide) a84 w a_w 1 (by omega)) (fun r v' hq => ?_)
  rw [hq.1, hq.2]
  clear hq r v'
  show ST G mi_Fi_root 9 [(0, .ref 78), (1, .ref r), (2, .ref u), (3, .ref w)] [] v 0 0 _
  refine ST.lift (fun _ _ k => T_aload_n (v := .ref 78) d_Fi_root_9 rfl (Or.inr ⟨_, rfl⟩) k) ?_
  refine S_getfield d_Fi_root_10 fg_Fi_25 (w78 _) rfl ?_
  refine ST.lift (fun _ _ k => T_aload_n (v := .ref 78) d_Fi_root_13 rfl (Or.inr ⟨_, rfl⟩) k) ?_
  refine S_getfield d_Fi_root_14 fg_Fi_25 (w78 _) rfl ?_
  refine ST.lift (fun _ _ k => T_aload_n (v := .ref w) d_Fi_root_17 rfl (Or.inr ⟨_, rfl⟩) k) ?_
  refine S_static (as := [.ref 84, .ref 84, .ref w]) (rest := []) d_Fi_root_18 rfl (jw_Fi_multiply.jo (by decide)) lm_Fi_57 jt_Fi_multiply rfl (Nat.le_of_ble_eq_true rfl) (by decide) (by decide) (c_Fi_multiply G v 84 (by decide) a84 84 a84 w a_w) (fun r v' hq => ?_)
  rw [hq.1, hq.2]
  clear hq r v'
  show ST G mi_Fi_root 21 [(0, .ref 78), (1, .ref r), (2, .ref u), (3, .ref w)] [] v 0 0 _
  refine ST.lift (fun _ _ k => T_aload_n (v := .ref 78) d_Fi_root_21 rfl (Or.inr ⟨_, rfl⟩) k) ?_
  refine S_getfield d_Fi_root_22 fg_Fi_28 (w78 _) rfl ?_
  refine ST.lift (fun _ _ k => T_aload_n (v := .ref 78) d_Fi_root_25 rfl (Or.inr ⟨_, rfl⟩) k) ?_
  refine S_getfield d_Fi_root_26 fg_Fi_25 (w78 _) rfl ?_
  refine ST.lift (fun _ _ k => T_iconst (v := nI 1) d_Fi_root_29 (by decide) k) ?_
  refine S_static (as := [.ref 85, .ref 84, .int (nI 1)]) (rest := []) d_Fi_root_30 rfl (jw_Fi_square.jo (by decide)) lm_Fi_53 jt_Fi_square rfl (Nat.le_of_ble_eq_true rfl) (by decide) (by decide) (c_Fi_square G v 85 (by decide) a85 84 a84 1 (by omega)) (fun r v' hq => ?_)
  rw [hq.1, hq.2]
  clear hq r v'
  show ST G mi_Fi_root 33 [(0, .ref 78), (1, .ref r), (2, .ref u), (3, .ref w)] [] v 0 0 _
  refine ST.lift (fun _ _ k => T_aload_n (v := .ref 78) d_Fi_root_33 rfl (Or.inr ⟨_, rfl⟩) k) ?_
  refine S_getfield d_Fi_root_34 fg_Fi_28 (w78 _) rfl ?_
  refine ST.lift (fun _ _ k => T_aload_n (v := .ref 78) d_Fi_root_37 rfl (Or.inr ⟨_, rfl⟩) k) ?_
  refine S_getfield d_Fi_root_38 fg_Fi_28 (w78 _) rfl ?_
  refine ST.lift (fun _ _ k => T_aload_n (v := .ref w) d_Fi_root_41 rfl (Or.inr ⟨_, rfl⟩) k) ?_
  refine S_static (as := [.ref 85, .ref 85, .ref w]) (rest := []) d_Fi_root_42 rfl (jw_Fi_multiply.jo (by decide)) lm_Fi_57 jt_Fi_multiply rfl (Nat.le_of_ble_eq_true rfl) (by decide) (by decide) (c_Fi_multiply G v 85 (by decide) a85 85 a85 w a_w) (fun r v' hq => ?_)
  rw [hq.1, hq.2]
  clear hq r v'
  show ST G mi_Fi_root 45 [(0, .ref 78), (1, .ref r), (2, .ref u), (3, .ref w)] [] v 0 0 _
  refine ST.lift (fun _ _ k => T_aload_n (v := .ref 78) d_Fi_root_45 rfl (Or.inr ⟨_, rfl⟩) k) ?_
  refine S_getfield d_Fi_root_46 fg_Fi_28 (w78 _) rfl ?_
  refine ST.lift (fun _ _ k => T_aload_n (v := .ref 78) d_Fi_root_49 rfl (Or.inr ⟨_, rfl⟩) k) ?_
  refine S_getfield d_Fi_root_50 fg_Fi_28 (w78 _) rfl ?_
  refine ST.lift (fun _ _ k => T_aload_n (v := .ref u) d_Fi_root_53 rfl (Or.inr ⟨_, rfl⟩) k) ?_
  refine S_static (as := [.ref 85, .ref 85, .ref u]) (rest := []) d_Fi_root_54 rfl (jw_Fi_multiply.jo (by decide)) lm_Fi_57 jt_Fi_multiply rfl (Nat.le_of_ble_eq_true rfl) (by decide) (by decide) (c_Fi_multiply G v 85 (by decide) a85 85 a85 u a_u) (fun r v' hq => ?_)
  rw [hq.1, hq.2]
  clear hq r v'
  show ST G mi_Fi_root 57 [(0, .ref 78), (1, .ref r), (2, .ref u), (3, .ref w)] [] v 0 0 _
  refine ST.lift (fun _ _ k => T_aload_n (v := .ref 78) d_Fi_root_57 rfl (Or.inr ⟨_, rfl⟩) k) ?_
  refine ST.lift (fun _ _ k => T_aload_n (v := .ref r) d_Fi_root_58 rfl (Or.inr ⟨_, rfl⟩) k) ?_
  refine ST.lift (fun _ _ k => T_aload_n (v := .ref 78) d_Fi_root_59 rfl (Or.inr ⟨_, rfl⟩) k) ?_
  refine S_getfield d_Fi_root_60 fg_Fi_28 (w78 _) rfl ?_
  refine S_virtual (as := [.ref r, .ref 85]) (rest := []) (b := 78) d_Fi_root_63 rfl (jw_Fi_raise.jo (by decide)) lm_Fi_61 ji_Fi_raise js_Fi_raise (w78 _) rfl rfl rfl (Nat.le_of_ble_eq_true rfl) (by decide) (by decide) (c_Fi_raise G v r w_r a_r 85 a85) (fun r v' hq => ?_)
  rw [hq.1, hq.2]
  clear hq r v'
  show ST G mi_Fi_root 66 [(0, .ref 78), (1, .ref r), (2, .ref u), (3, .ref w)] [] v 0 0 _
  refine ST.lift (fun _ _ k => T_aload_n (v := .ref r) d_Fi_root_66 rfl (Or.inr ⟨_, rfl⟩) k) ?_
  refine ST.lift (fun _ _ k => T_aload_n (v := .ref r) d_Fi_root_67 rfl (Or.inr ⟨_, rfl⟩) k) ?_
  refine ST.lift (fun _ _ k => T_aload_n (v := .ref 78) d_Fi_root_68 rfl (Or.inr ⟨_, rfl⟩) k) ?_
  refine S_getfield d_Fi_root_69 fg_Fi_25 (w78 _) rfl ?_
  refine S_static (as := [.ref r, .ref r, .ref 84]) (rest := []) d_Fi_root_72 rfl (jw_Fi_multiply.jo (by decide)) lm_Fi_57 jt_Fi_multiply rfl (Nat.le_of_ble_eq_true rfl) (by decide) (by decide) (c_Fi_multiply G v r w_r a_r r a_r 84 a84) (fun r v' hq => ?_)
  rw [hq.1, hq.2]
  clear hq r v'
  show ST G mi_Fi_root 75 [(0, .ref 78), (1, .ref r), (2, .ref u), (3, .ref w)] [] v 0 0 _
  refine ST.lift (fun _ _ k => T_aload_n (v := .ref r) d_Fi_root_75 rfl (Or.inr ⟨_, rfl⟩) k) ?_
  refine ST.lift (fun _ _ k => T_aload_n (v := .ref r) d_Fi_root_76 rfl (Or.inr ⟨_, rfl⟩) k) ?_
  refine ST.lift (fun _ _ k => T_aload_n (v := .ref u) d_Fi_root_77 rfl (Or.inr ⟨_, rfl⟩) k) ?_
  refine S_static (as := [.ref r, .ref r, .ref u]) (rest := []) d_Fi_root_78 rfl (jw_Fi_multiply.jo (by decide)) lm_Fi_57 jt_Fi_multiply rfl (Nat.le_of_ble_eq_true rfl) (by decide) (by decide) (c_Fi_multiply G v r w_r a_r r a_r u a_u) (fun r v' hq => ?_)
  rw [hq.1, hq.2]
  clear hq r v'
  show ST G mi_Fi_root 81 [(0, .ref 78), (1, .ref r), (2, .ref u), (3, .ref w)] [] v 0 0 _
  refine ST.lift (fun _ _ k => T_aload_n (v := .ref 78) d_Fi_root_81 rfl (Or.inr ⟨_, rfl⟩) k) ?_
  refine S_getfield d_Fi_root_82 fg_Fi_25 (w78 _) rfl ?_
  refine ST.lift (fun _ _ k => T_aload_n (v := .ref r) d_Fi_root_85 rfl (Or.inr ⟨_, rfl⟩) k) ?_
  refine ST.lift (fun _ _ k => T_iconst (v := nI 1) d_Fi_root_86 (by decide) k) ?_
  refine S_static (as := [.ref 84, .ref r, .int (nI 1)]) (rest := []) d_Fi_root_87 rfl (jw_Fi_square.jo (by decide)) lm_Fi_53 jt_Fi_square rfl (Nat.le_of_ble_eq_true rfl) (by decide) (by decide) (c_Fi_square G v 84 (by decide) a84 r a_r 1 (by omega)) (fun r v' hq => ?_)
  rw [hq.1, hq.2]
  clear hq r v'
  show ST G mi_Fi_root 90 [(0, .ref 78), (1, .ref r), (2, .ref u), (3, .ref w)] [] v 0 0 _
  refine ST.lift (fun _ _ k => T_aload_n (v := .ref 78) d_Fi_root_90 rfl (Or.inr ⟨_, rfl⟩) k) ?_
  refine S_getfield d_Fi_root_91 fg_Fi_25 (w78 _) rfl ?_
  refine ST.lift (fun _ _ k => T_aload_n (v := .ref 78) d_Fi_root_94 rfl (Or.inr ⟨_, rfl⟩) k) ?_
  refine S_getfield d_Fi_root_95 fg_Fi_25 (w78 _) rfl ?_
  refine ST.lift (fun _ _ k => T_aload_n (v := .ref w) d_Fi_root_98 rfl (Or.inr ⟨_, rfl⟩) k) ?_
  refine S_static (as := [.ref 84, .ref 84, .ref w]) (rest := []) d_Fi_root_99 rfl (jw_Fi_multiply.jo (by decide)) lm_Fi_57 jt_Fi_multiply rfl (Nat.le_of_ble_eq_true rfl) (by decide) (by decide) (c_Fi_multiply G v 84 (by decide) a84 84 a84 w a_w) (fun r v' hq => ?_)
  rw [hq.1, hq.2]
  clear hq r v'
  show ST G mi_Fi_root 102 [(0, .ref 78), (1, .ref r), (2, .ref u), (3, .ref w)] [] v 0 0 _
  refine ST.lift (fun _ _ k => T_aload_n (v := .ref 78) d_Fi_root_102 rfl (Or.inr ⟨_, rfl⟩) k) ?_
  refine S_getfield d_Fi_root_103 fg_Fi_13 (w78 _) rfl ?_
  refine ST.lift (fun _ _ k => T_aload_n (v := .ref 78) d_Fi_root_106 rfl (Or.inr ⟨_, rfl⟩) k) ?_
  refine S_getfield d_Fi_root_107 fg_Fi_25 (w78 _) rfl ?_
  refine ST.lift (fun _ _ k => T_aload_n (v := .ref u) d_Fi_root_110 rfl (Or.inr ⟨_, rfl⟩) k) ?_
  refine S_static (as := [.ref 80, .ref 84, .ref u]) (rest := []) d_Fi_root_111 rfl (jw_Fi_subtract.jo (by decide)) lm_Fi_65 jt_Fi_subtract rfl (Nat.le_of_ble_eq_true rfl) (by decide) (by decide) (c_Fi_subtract G v 80 (by decide) a80 84 a84 u a_u) (fun r v' hq => ?_)
  rw [hq.1, hq.2]
  clear hq r v'
  show ST G mi_Fi_root 114 [(0, .ref 78), (1, .ref r), (2, .ref u), (3, .ref w)] [] v 0 0 _
  refine ST.lift (fun _ _ k => T_aload_n (v := .ref 78) d_Fi_root_114 rfl (Or.inr ⟨_, rfl⟩) k) ?_
  refine ST.lift (fun _ _ k => T_aload_n (v := .ref 78) d_Fi_root_115 rfl (Or.inr ⟨_, rfl⟩) k) ?_
  refine S_getfield d_Fi_root_116 fg_Fi_13 (w78 _) rfl ?_
  refine S_virtual (as := [.ref 80]) (rest := []) (b := 78) d_Fi_root_119 rfl (jw_Fi_isZero.jo (by decide)) lm_Fi_68 ji_Fi_isZero js_Fi_isZero (w78 _) rfl rfl rfl (Nat.le_of_ble_eq_true rfl) (by decide) (by decide) (c_Fi_isZero G v 80 a80) (fun r v' hq => ?_)
  obtain ⟨z1, hz1, hr, hv⟩ := hq
  rw [hr, hv]
  clear hr hv r v'
  show ST G mi_Fi_root 122 [(0, .ref 78), (1, .ref r), (2, .ref u), (3, .ref w)] [.int (nI z1)] v 0 0 _
  refine ST.lift (fun _ _ k => T_istore (L' := [(4, .int (nI z1)), (0, .ref 78), (1, .ref r), (2, .ref u), (3, .ref w)]) d_Fi_root_122 (by decide) rfl k) ?_
  refine ST.lift (fun _ _ k => T_aload_n (v := .ref 78) d_Fi_root_124 rfl (Or.inr ⟨_, rfl⟩) k) ?_
  refine S_getfield d_Fi_root_125 fg_Fi_13 (w78 _) rfl ?_
  refine ST.lift (fun _ _ k => T_aload_n (v := .ref 78) d_Fi_root_128 rfl (Or.inr ⟨_, rfl⟩) k) ?_
  refine S_getfield d_Fi_root_129 fg_Fi_25 (w78 _) rfl ?_
  refine ST.lift (fun _ _ k => T_aload_n (v := .ref u) d_Fi_root_132 rfl (Or.inr ⟨_, rfl⟩) k) ?_
  refine S_static (as := [.ref 80, .ref 84, .ref u]) (rest := []) d_Fi_root_133 rfl (jw_Fi_add.jo (by decide)) lm_Fi_72 jt_Fi_add rfl (Nat.le_of_ble_eq_true rfl) (by decide) (by decide) (c_Fi_add G v 80 (by decide) a80 84 a84 u a_u) (fun r v' hq => ?_)
  rw [hq.1, hq.2]
  clear hq r v'
  show ST G mi_Fi_root 136 [(4, .int (nI z1)), (0, .ref 78), (1, .ref r), (2, .ref u), (3, .ref w)] [] v 0 0 _
  refine ST.lift (fun _ _ k => T_aload_n (v := .ref 78) d_Fi_root_136 rfl (Or.inr ⟨_, rfl⟩) k) ?_
  refine ST.lift (fun _ _ k => T_aload_n (v := .ref 78) d_Fi_root_137 rfl (Or.inr ⟨_, rfl⟩) k) ?_
  refine S_getfield d_Fi_root_138 fg_Fi_13 (w78 _) rfl ?_
  refine S_virtual (as := [.ref 80]) (rest := []) (b := 78) d_Fi_root_141 rfl (jw_Fi_isZero.jo (by decide)) lm_Fi_68 ji_Fi_isZero js_Fi_isZero (w78 _) rfl rfl rfl (Nat.le_of_ble_eq_true rfl) (by decide) (by decide) (c_Fi_isZero G v 80 a80) (fun r v' hq => ?_)
  obtain ⟨z2, hz2, hr, hv⟩ := hq
  rw [hr, hv]
  clear hr hv r v'
  show ST G mi_Fi_root 144 [(4, .int (nI z1)), (0, .ref 78), (1, .ref r), (2, .ref u), (3, .ref w)] [.int (nI z2)] v 0 0 _
  refine ST.lift (fun _ _ k => T_istore (L' := [(5, .int (nI z2)), (4, .int (nI z1)), (0, .ref 78), (1, .ref r), (2, .ref u), (3, .ref w)]) d_Fi_root_144 (by decide) rfl k) ?_
  refine ST.lift (fun _ _ k => T_aload_n (v := .ref 78) d_Fi_root_146 rfl (Or.inr ⟨_, rfl⟩) k) ?_
  refine S_getfield d_Fi_root_147 fg_Fi_13 (w78 _) rfl ?_
  refine ST.lift (fun _ _ k => T_aload_n (v := .ref u) d_Fi_root_150 rfl (Or.inr ⟨_, rfl⟩) k) ?_
  refine ST.lift (fun _ _ k => T_getstatic (q := ("PasswordGate$Field", "I", "[J", .ref 2)) d_Fi_root_151 (List.mem_of_getElem? (i := 2) rfl) gs_Fi_75 (show 2 < K0 by decide) k) ?_
  refine S_static (as := [.ref 80, .ref u, .ref 2]) (rest := []) d_Fi_root_154 rfl (jw_Fi_multiply.jo (by decide)) lm_Fi_57 jt_Fi_multiply rfl (Nat.le_of_ble_eq_true rfl) (by decide) (by decide) (c_Fi_multiply G v 80 (by decide) a80 u a_u 2 a2) (fun r v' hq => ?_)
  rw [hq.1, hq.2]
  clear hq r v'
  show ST G mi_Fi_root 157 [(5, .int (nI z2)), (4, .int (nI z1)), (0, .ref 78), (1, .ref r), (2, .ref u), (3, .ref w)] [] v 0 0 _
  refine ST.lift (fun _ _ k => T_aload_n (v := .ref 78) d_Fi_root_157 rfl (Or.inr ⟨_, rfl⟩) k) ?_
  refine S_getfield d_Fi_root_158 fg_Fi_13 (w78 _) rfl ?_
  refine ST.lift (fun _ _ k => T_aload_n (v := .ref 78) d_Fi_root_161 rfl (Or.inr ⟨_, rfl⟩) k) ?_
  refine S_getfield d_Fi_root_162 fg_Fi_25 (w78 _) rfl ?_
  refine ST.lift (fun _ _ k => T_aload_n (v := .ref 78) d_Fi_root_165 rfl (Or.inr ⟨_, rfl⟩) k) ?_
  refine S_getfield d_Fi_root_166 fg_Fi_13 (w78 _) rfl ?_
  refine S_static (as := [.ref 80, .ref 84, .ref 80]) (rest := []) d_Fi_root_169 rfl (jw_Fi_add.jo (by decide)) lm_Fi_72 jt_Fi_add rfl (Nat.le_of_ble_eq_true rfl) (by decide) (by decide) (c_Fi_add G v 80 (by decide) a80 84 a84 80 a80) (fun r v' hq => ?_)
  rw [hq.1, hq.2]
  clear hq r v'
  show ST G mi_Fi_root 172 [(5, .int (nI z2)), (4, .int (nI z1)), (0, .ref 78), (1, .ref r), (2, .ref u), (3, .ref w)] [] v 0 0 _
  refine ST.lift (fun _ _ k => T_iload d_Fi_root_172 rfl k) ?_
  have J196_6 : ST G mi_Fi_root 196 [(5, .int (nI z2)), (4, .int (nI z1)), (0, .ref 78), (1, .ref r), (2, .ref u), (3, .ref w)] [] v 0 0 Q := by
    refine ST.lift (fun _ _ k => T_aload_n (v := .ref 78) d_Fi_root_196 rfl (Or.inr ⟨_, rfl⟩) k) ?_
    refine ST.lift (fun _ _ k => T_aload_n (v := .ref r) d_Fi_root_197 rfl (Or.inr ⟨_, rfl⟩) k) ?_
    refine S_virtual (as := [.ref r]) (rest := []) (b := 78) d_Fi_root_198 rfl (jw_Fi_isOdd.jo (by decide)) lm_Fi_78 ji_Fi_isOdd js_Fi_isOdd (w78 _) rfl rfl rfl (Nat.le_of_ble_eq_true rfl) (by decide) (by decide) (c_Fi_isOdd G v r a_r) (fun r v' hq => ?_)
    obtain ⟨z7, hz7, hr, hv⟩ := hq
    rw [hr, hv]
    clear hr hv r v'
    show ST G mi_Fi_root 201 [(5, .int (nI z2)), (4, .int (nI z1)), (0, .ref 78), (1, .ref r), (2, .ref u), (3, .ref w)] [.int (nI z7)] v 0 0 _
    have J209_9 : ST G mi_Fi_root 209 [(5, .int (nI z2)), (4, .int (nI z1)), (0, .ref 78), (1, .ref r), (2, .ref u), (3, .ref w)] [] v 0 0 Q := by
      refine ST.lift (fun _ _ k => T_iload d_Fi_root_209 rfl k) ?_
      refine S_if_neN d_Fi_root_211 rfl (by omega) (fun c10 => ?_) (fun c10 => ?_)
      · refine ST.lift (fun _ _ k => T_iconst (v := nI 1) d_Fi_root_219 (by decide) k) ?_
        refine ST.lift (fun _ _ k => T_goto (tgt := 224) d_Fi_root_220 rfl k) ?_
        exact S_ret d_Fi_root_224 rfl (by decide) (by decide) (by decide) (hQ 1 (by decide))
      · refine ST.lift (fun _ _ k => T_iload d_Fi_root_214 rfl k) ?_
        refine S_if_eqN d_Fi_root_216 rfl (by omega) (fun c11 => ?_) (fun c11 => ?_)
        · refine ST.lift (fun _ _ k => T_iconst (v := nI 0) d_Fi_root_223 (by decide) k) ?_
          exact S_ret d_Fi_root_224 rfl (by decide) (by decide) (by decide) (hQ 0 (by decide))
        · refine ST.lift (fun _ _ k => T_iconst (v := nI 1) d_Fi_root_219 (by decide) k) ?_
          refine ST.lift (fun _ _ k => T_goto (tgt := 224) d_Fi_root_220 rfl k) ?_
          exact S_ret d_Fi_root_224 rfl (by decide) (by decide) (by decide) (hQ 1 (by decide))
    refine S_if_eqN d_Fi_root_201 rfl (by omega) (fun c8 => ?_) (fun c8 => ?_)
    · exact J209_9 
    · refine ST.lift (fun _ _ k => T_aload_n (v := .ref r) d_Fi_root_204 rfl (Or.inr ⟨_, rfl⟩) k) ?_
      refine ST.lift (fun _ _ k => T_aload_n (v := .ref r) d_Fi_root_205 rfl (Or.inr ⟨_, rfl⟩) k) ?_
      refine S_static (as := [.ref r, .ref r]) (rest := []) d_Fi_root_206 rfl (jw_Fi_negate.jo (by decide)) lm_Fi_81 jt_Fi_negate rfl (Nat.le_of_ble_eq_true rfl) (by decide) (by decide) (c_Fi_negate G v r w_r a_r r a_r) (fun r v' hq => ?_)
      rw [hq.1, hq.2]
      clear hq r v'
      show ST G mi_Fi_root 209 [(5, .int (nI z2)), (4, .int (nI z1)), (0, .ref 78), (1, .ref r), (2, .ref u), (3, .ref w)] [] v 0 0 _
      exact J209_9 
  refine S_if_neN d_Fi_root_174 rfl (by omega) (fun c3 => ?_) (fun c3 => ?_)
  · refine ST.lift (fun _ _ k => T_aload_n (v := .ref r) d_Fi_root_188 rfl (Or.inr ⟨_, rfl⟩) k) ?_
    refine ST.lift (fun _ _ k => T_aload_n (v := .ref r) d_Fi_root_189 rfl (Or.inr ⟨_, rfl⟩) k) ?_
    refine ST.lift (fun _ _ k => T_getstatic (q := ("PasswordGate$Field", "I", "[J", .ref 2)) d_Fi_root_190 (List.mem_of_getElem? (i := 2) rfl) gs_Fi_75 (show 2 < K0 by decide) k) ?_
    refine S_static (as := [.ref r, .ref r, .ref 2]) (rest := []) d_Fi_root_193 rfl (jw_Fi_multiply.jo (by decide)) lm_Fi_57 jt_Fi_multiply rfl (Nat.le_of_ble_eq_true rfl) (by decide) (by decide) (c_Fi_multiply G v r w_r a_r r a_r 2 a2) (fun r v' hq => ?_)
    rw [hq.1, hq.2]
    clear hq r v'
    show ST G mi_Fi_root 196 [(5, .int (nI z2)), (4, .int (nI z1)), (0, .ref 78), (1, .ref r), (2, .ref u), (3, .ref w)] [] v 0 0 _
    exact J196_6 
  · refine ST.lift (fun _ _ k => T_aload_n (v := .ref 78) d_Fi_root_177 rfl (Or.inr ⟨_, rfl⟩) k) ?_
    refine ST.lift (fun _ _ k => T_aload_n (v := .ref 78) d_Fi_root_178 rfl (Or.inr ⟨_, rfl⟩) k) ?_
    refine S_getfield d_Fi_root_179 fg_Fi_13 (w78 _) rfl ?_
    refine S_virtual (as := [.ref 80]) (rest := []) (b := 78) d_Fi_root_182 rfl (jw_Fi_isZero.jo (by decide)) lm_Fi_68 ji_Fi_isZero js_Fi_isZero (w78 _) rfl rfl rfl (Nat.le_of_ble_eq_true rfl) (by decide) (by decide) (c_Fi_isZero G v 80 a80) (fun r v' hq => ?_)
    obtain ⟨z12, hz12, hr, hv⟩ := hq
    rw [hr, hv]
    clear hr hv r v'
    show ST G mi_Fi_root 185 [(5, .int (nI z2)), (4, .int (nI z1)), (0, .ref 78), (1, .ref r), (2, .ref u), (3, .ref w)] [.int (nI z12)] v 0 0 _
    refine S_if_eqN d_Fi_root_185 rfl (by omega) (fun c13 => ?_) (fun c13 => ?_)
    · exact J196_6 
    · refine ST.lift (fun _ _ k => T_aload_n (v := .ref r) d_Fi_root_188 rfl (Or.inr ⟨_, rfl⟩) k) ?_
      refine ST.lift (fun _ _ k => T_aload_n (v := .ref r) d_Fi_root_189 rfl (Or.inr ⟨_, rfl⟩) k) ?_
      refine ST.lift (fun _ _ k => T_getstatic (q := ("PasswordGate$Field", "I", "[J", .ref 2)) d_Fi_root_190 (List.mem_of_getElem? (i := 2) rfl) gs_Fi_75 (show 2 < K0 by decide) k) ?_
      refine S_static (as := [.ref r, .ref r, .ref 2]) (rest := []) d_Fi_root_193 rfl (jw_Fi_multiply.jo (by decide)) lm_Fi_57 jt_Fi_multiply rfl (Nat.le_of_ble_eq_true rfl) (by decide) (by decide) (c_Fi_multiply G v r w_r a_r r a_r 2 a2) (fun r v' hq => ?_)
      rw [hq.1, hq.2]
      clear hq r v'
      show ST G mi_Fi_root 196 [(5, .int (nI z2)), (4, .int (nI z1)), (0, .ref 78), (1, .ref r), (2, .ref u), (3, .ref w)] [] v 0 0 _
      exact J196_6 
set_option maxRecDepth 100000 in
set_option maxHeartbeats 4000000 in
theorem c_Po_copy (G : GX) (v : Nat → Int32) (p px py pz pt : Nat) (p_p : isPt p px py pz pt) (q qx qy qz qt : Nat) (p_q : isPt q qx qy qz qt) : CS G mi_Po_copy [.ref p, .ref q] v (fun r v' => r = none ∧ v' = v) := by
  refine CS.of (by decide) (Nat.le_of_ble_eq_true rfl) ?_
  generalize hQe : (fun (r : Option Value) (v' : Nat → Int32) => r = none ∧ v' = v) = Q
  have hQ : Q none v := by rw [← hQe]; exact ⟨rfl, rfl⟩
  clear hQe
  show ST G mi_Po_copy 0 [(0, .ref p), (1, .ref q)] [] v 0 0 Q
  refine ST.lift (fun _ _ k => T_aload_n (v := .ref p) d_Po_copy_0 rfl (Or.inr ⟨_, rfl⟩) k) ?_
  refine S_getfield d_Po_copy_1 fg_Po_9 (p_p.1 _) rfl ?_
  refine ST.lift (fun _ _ k => T_aload_n (v := .ref q) d_Po_copy_4 rfl (Or.inr ⟨_, rfl⟩) k) ?_
  refine S_getfield d_Po_copy_5 fg_Po_9 (p_q.1 _) rfl ?_
  refine S_static (as := [.ref px, .ref qx]) (rest := []) d_Po_copy_8 rfl (jw_Fi_copy.jo (by decide)) lm_Po_24 jt_Fi_copy rfl (Nat.le_of_ble_eq_true rfl) (by decide) (by decide) (c_Fi_copy G v px p_p.2.2.2.2.2.1 p_p.2.1 qx p_q.2.1) (fun r v' hq => ?_)
  rw [hq.1, hq.2]
  clear hq r v'
  show ST G mi_Po_copy 11 [(0, .ref p), (1, .ref q)] [] v 0 0 _
  refine ST.lift (fun _ _ k => T_aload_n (v := .ref p) d_Po_copy_11 rfl (Or.inr ⟨_, rfl⟩) k) ?_
  refine S_getfield d_Po_copy_12 fg_Po_15 (p_p.1 _) rfl ?_
  refine ST.lift (fun _ _ k => T_aload_n (v := .ref q) d_Po_copy_15 rfl (Or.inr ⟨_, rfl⟩) k) ?_
  refine S_getfield d_Po_copy_16 fg_Po_15 (p_q.1 _) rfl ?_
  refine S_static (as := [.ref py, .ref qy]) (rest := []) d_Po_copy_19 rfl (jw_Fi_copy.jo (by decide)) lm_Po_24 jt_Fi_copy rfl (Nat.le_of_ble_eq_true rfl) (by decide) (by decide) (c_Fi_copy G v py p_p.2.2.2.2.2.2.1 p_p.2.2.1 qy p_q.2.2.1) (fun r v' hq => ?_)
  rw [hq.1, hq.2]
  clear hq r v'
  show ST G mi_Po_copy 22 [(0, .ref p), (1, .ref q)] [] v 0 0 _
  refine ST.lift (fun _ _ k => T_aload_n (v := .ref p) d_Po_copy_22 rfl (Or.inr ⟨_, rfl⟩) k) ?_
  refine S_getfield d_Po_copy_23 fg_Po_18 (p_p.1 _) rfl ?_
  refine ST.lift (fun _ _ k => T_aload_n (v := .ref q) d_Po_copy_26 rfl (Or.inr ⟨_, rfl⟩) k) ?_
  refine S_getfield d_Po_copy_27 fg_Po_18 (p_q.1 _) rfl ?_
  refine S_static (as := [.ref pz, .ref qz]) (rest := []) d_Po_copy_30 rfl (jw_Fi_copy.jo (by decide)) lm_Po_24 jt_Fi_copy rfl (Nat.le_of_ble_eq_true rfl) (by decide) (by decide) (c_Fi_copy G v pz p_p.2.2.2.2.2.2.2.1 p_p.2.2.2.1 qz p_q.2.2.2.1) (fun r v' hq => ?_)
  rw [hq.1, hq.2]
  clear hq r v'
  show ST G mi_Po_copy 33 [(0, .ref p), (1, .ref q)] [] v 0 0 _
  refine ST.lift (fun _ _ k => T_aload_n (v := .ref p) d_Po_copy_33 rfl (Or.inr ⟨_, rfl⟩) k) ?_
  refine S_getfield d_Po_copy_34 fg_Po_21 (p_p.1 _) rfl ?_
  refine ST.lift (fun _ _ k => T_aload_n (v := .ref q) d_Po_copy_37 rfl (Or.inr ⟨_, rfl⟩) k) ?_
  refine S_getfield d_Po_copy_38 fg_Po_21 (p_q.1 _) rfl ?_
  refine S_static (as := [.ref pt, .ref qt]) (rest := []) d_Po_copy_41 rfl (jw_Fi_copy.jo (by decide)) lm_Po_24 jt_Fi_copy rfl (Nat.le_of_ble_eq_true rfl) (by decide) (by decide) (c_Fi_copy G v pt p_p.2.2.2.2.2.2.2.2 p_p.2.2.2.2.1 qt p_q.2.2.2.2.1) (fun r v' hq => ?_)
  rw [hq.1, hq.2]
  clear hq r v'
  show ST G mi_Po_copy 44 [(0, .ref p), (1, .ref q)] [] v 0 0 _
  exact S_vret d_Po_copy_44 rfl (by decide) (by decide) hQ
set_option maxRecDepth 100000 in
set_option maxHeartbeats 4000000 in
theorem c_Po_setPlain (G : GX) (v : Nat → Int32) (p px py pz pt : Nat) (p_p : isPt p px py pz pt) (f : Nat) (a_f : aL f 10) (g : Nat) (a_g : aL g 10) : CS G mi_Po_setPlain [.ref p, .ref f, .ref g] v (fun r v' => r = none ∧ v' = v) := by
  refine CS.of (by decide) (Nat.le_of_ble_eq_true rfl) ?_
  generalize hQe : (fun (r : Option Value) (v' : Nat → Int32) => r = none ∧ v' = v) = Q
  have hQ : Q none v := by rw [← hQe]; exact ⟨rfl, rfl⟩
  clear hQe
  show ST G mi_Po_setPlain 0 [(0, .ref p), (1, .ref f), (2, .ref g)] [] v 0 0 Q
  refine ST.lift (fun _ _ k => T_aload_n (v := .ref p) d_Po_setPlain_0 rfl (Or.inr ⟨_, rfl⟩) k) ?_
  refine S_getfield d_Po_setPlain_1 fg_Po_9 (p_p.1 _) rfl ?_
  refine ST.lift (fun _ _ k => T_aload_n (v := .ref f) d_Po_setPlain_4 rfl (Or.inr ⟨_, rfl⟩) k) ?_
  refine S_static (as := [.ref px, .ref f]) (rest := []) d_Po_setPlain_5 rfl (jw_Fi_copy.jo (by decide)) lm_Po_24 jt_Fi_copy rfl (Nat.le_of_ble_eq_true rfl) (by decide) (by decide) (c_Fi_copy G v px p_p.2.2.2.2.2.1 p_p.2.1 f a_f) (fun r v' hq => ?_)
  rw [hq.1, hq.2]
  clear hq r v'
  show ST G mi_Po_setPlain 8 [(0, .ref p), (1, .ref f), (2, .ref g)] [] v 0 0 _
  refine ST.lift (fun _ _ k => T_aload_n (v := .ref p) d_Po_setPlain_8 rfl (Or.inr ⟨_, rfl⟩) k) ?_
  refine S_getfield d_Po_setPlain_9 fg_Po_15 (p_p.1 _) rfl ?_
  refine ST.lift (fun _ _ k => T_aload_n (v := .ref g) d_Po_setPlain_12 rfl (Or.inr ⟨_, rfl⟩) k) ?_
  refine S_static (as := [.ref py, .ref g]) (rest := []) d_Po_setPlain_13 rfl (jw_Fi_copy.jo (by decide)) lm_Po_24 jt_Fi_copy rfl (Nat.le_of_ble_eq_true rfl) (by decide) (by decide) (c_Fi_copy G v py p_p.2.2.2.2.2.2.1 p_p.2.2.1 g a_g) (fun r v' hq => ?_)
  rw [hq.1, hq.2]
  clear hq r v'
  show ST G mi_Po_setPlain 16 [(0, .ref p), (1, .ref f), (2, .ref g)] [] v 0 0 _
  refine ST.lift (fun _ _ k => T_aload_n (v := .ref p) d_Po_setPlain_16 rfl (Or.inr ⟨_, rfl⟩) k) ?_
  refine S_getfield d_Po_setPlain_17 fg_Po_18 (p_p.1 _) rfl ?_
  refine ST.lift (fun _ _ k => T_getstatic (q := ("PasswordGate$Field", "ONE", "[J", .ref 3)) d_Po_setPlain_20 (List.mem_of_getElem? (i := 3) rfl) gs_Po_28 (show 3 < K0 by decide) k) ?_
  refine S_static (as := [.ref pz, .ref 3]) (rest := []) d_Po_setPlain_23 rfl (jw_Fi_copy.jo (by decide)) lm_Po_24 jt_Fi_copy rfl (Nat.le_of_ble_eq_true rfl) (by decide) (by decide) (c_Fi_copy G v pz p_p.2.2.2.2.2.2.2.1 p_p.2.2.2.1 3 a3) (fun r v' hq => ?_)
  rw [hq.1, hq.2]
  clear hq r v'
  show ST G mi_Po_setPlain 26 [(0, .ref p), (1, .ref f), (2, .ref g)] [] v 0 0 _
  refine ST.lift (fun _ _ k => T_aload_n (v := .ref p) d_Po_setPlain_26 rfl (Or.inr ⟨_, rfl⟩) k) ?_
  refine S_getfield d_Po_setPlain_27 fg_Po_21 (p_p.1 _) rfl ?_
  refine ST.lift (fun _ _ k => T_aload_n (v := .ref f) d_Po_setPlain_30 rfl (Or.inr ⟨_, rfl⟩) k) ?_
  refine ST.lift (fun _ _ k => T_aload_n (v := .ref g) d_Po_setPlain_31 rfl (Or.inr ⟨_, rfl⟩) k) ?_
  refine S_static (as := [.ref pt, .ref f, .ref g]) (rest := []) d_Po_setPlain_32 rfl (jw_Fi_multiply.jo (by decide)) lm_Po_31 jt_Fi_multiply rfl (Nat.le_of_ble_eq_true rfl) (by decide) (by decide) (c_Fi_multiply G v pt p_p.2.2.2.2.2.2.2.2 p_p.2.2.2.2.1 f a_f g a_g) (fun r v' hq => ?_)
  rw [hq.1, hq.2]
  clear hq r v'
  show ST G mi_Po_setPlain 35 [(0, .ref p), (1, .ref f), (2, .ref g)] [] v 0 0 _
  exact S_vret d_Po_setPlain_35 rfl (by decide) (by decide) hQ

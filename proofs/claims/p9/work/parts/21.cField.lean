set_option maxRecDepth 100000 in
set_option maxHeartbeats 4000000 in
theorem c_Fi_add (G : GX) (v : Nat → Int32) (to : Nat) (w_to : K0 ≤ to) (a_to : aL to 10) (f : Nat) (a_f : aL f 10) (g : Nat) (a_g : aL g 10) : CS G mi_Fi_add [.ref to, .ref f, .ref g] v (fun r v' => r = none ∧ v' = v) := by
  refine CS.of (by decide) (Nat.le_of_ble_eq_true rfl) ?_
  generalize hQe : (fun (r : Option Value) (v' : Nat → Int32) => r = none ∧ v' = v) = Q
  have hQ : Q none v := by rw [← hQe]; exact ⟨rfl, rfl⟩
  clear hQe
  show ST G mi_Fi_add 0 [(0, .ref to), (1, .ref f), (2, .ref g)] [] v 0 0 Q
  refine ST.lift (fun _ _ k => T_iconst (v := nI 0) d_Fi_add_0 (by decide) k) ?_
  refine ST.lift (fun _ _ k => T_istore_n (L' := [(3, .int (nI 0)), (0, .ref to), (1, .ref f), (2, .ref g)]) d_Fi_add_1 (by decide) rfl k) ?_
  refine ST.lift (fun _ _ k => T_iload_n d_Fi_add_2 rfl k) ?_
  refine ST.lift (fun _ _ k => T_bipush (v := nI 10) d_Fi_add_3 (by decide) k) ?_
  refine S_icmp_geN d_Fi_add_5 rfl (by omega) (by omega) (fun c => by first | exact absurd c (by omega) | exact c.elim | exact absurd c (by decide) | exact absurd (by assumption) c | exact absurd c (by assumption)) (fun _ => ?_)
  refine ST.lift (fun _ _ k => T_aload_n (v := .ref to) d_Fi_add_8 rfl (Or.inr ⟨_, rfl⟩) k) ?_
  refine ST.lift (fun _ _ k => T_iload_n d_Fi_add_9 rfl k) ?_
  refine ST.lift (fun _ _ k => T_aload_n (v := .ref f) d_Fi_add_10 rfl (Or.inr ⟨_, rfl⟩) k) ?_
  refine ST.lift (fun _ _ k => T_iload_n d_Fi_add_11 rfl k) ?_
  refine S_laload d_Fi_add_12 a_f (vp_in_nI (by omega) (by omega)) (fun z1 => ?_)
  refine ST.lift (fun _ _ k => T_aload_n (v := .ref g) d_Fi_add_13 rfl (Or.inr ⟨_, rfl⟩) k) ?_
  refine ST.lift (fun _ _ k => T_iload_n d_Fi_add_14 rfl k) ?_
  refine S_laload d_Fi_add_15 a_g (vp_in_nI (by omega) (by omega)) (fun z2 => ?_)
  refine ST.lift (fun _ _ k => T_ladd d_Fi_add_16 k) (S_anyl fun z3 => ?_)
  refine S_lastore d_Fi_add_17 w_to a_to (vp_in_nI (by omega) (by omega)) ?_
  refine S_iincN (a := 0) (b := 1) (L' := [(3, .int (nI 1)), (0, .ref to), (1, .ref f), (2, .ref g)]) d_Fi_add_18 (by decide) rfl rfl rfl ?_
  refine ST.lift (fun _ _ k => T_goto (tgt := 2) d_Fi_add_21 rfl k) ?_
  refine ST.lift (fun _ _ k => T_iload_n d_Fi_add_2 rfl k) ?_
  refine ST.lift (fun _ _ k => T_bipush (v := nI 10) d_Fi_add_3 (by decide) k) ?_
  refine S_icmp_geN d_Fi_add_5 rfl (by omega) (by omega) (fun c => by first | exact absurd c (by omega) | exact c.elim | exact absurd c (by decide) | exact absurd (by assumption) c | exact absurd c (by assumption)) (fun _ => ?_)
  refine ST.lift (fun _ _ k => T_aload_n (v := .ref to) d_Fi_add_8 rfl (Or.inr ⟨_, rfl⟩) k) ?_
  refine ST.lift (fun _ _ k => T_iload_n d_Fi_add_9 rfl k) ?_
  refine ST.lift (fun _ _ k => T_aload_n (v := .ref f) d_Fi_add_10 rfl (Or.inr ⟨_, rfl⟩) k) ?_
  refine ST.lift (fun _ _ k => T_iload_n d_Fi_add_11 rfl k) ?_
  refine S_laload d_Fi_add_12 a_f (vp_in_nI (by omega) (by omega)) (fun z4 => ?_)
  refine ST.lift (fun _ _ k => T_aload_n (v := .ref g) d_Fi_add_13 rfl (Or.inr ⟨_, rfl⟩) k) ?_
  refine ST.lift (fun _ _ k => T_iload_n d_Fi_add_14 rfl k) ?_
  refine S_laload d_Fi_add_15 a_g (vp_in_nI (by omega) (by omega)) (fun z5 => ?_)
  refine ST.lift (fun _ _ k => T_ladd d_Fi_add_16 k) (S_anyl fun z6 => ?_)
  refine S_lastore d_Fi_add_17 w_to a_to (vp_in_nI (by omega) (by omega)) ?_
  refine S_iincN (a := 1) (b := 1) (L' := [(3, .int (nI 2)), (0, .ref to), (1, .ref f), (2, .ref g)]) d_Fi_add_18 (by decide) rfl rfl rfl ?_
  refine ST.lift (fun _ _ k => T_goto (tgt := 2) d_Fi_add_21 rfl k) ?_
  refine ST.lift (fun _ _ k => T_iload_n d_Fi_add_2 rfl k) ?_
  refine ST.lift (fun _ _ k => T_bipush (v := nI 10) d_Fi_add_3 (by decide) k) ?_
  refine S_icmp_geN d_Fi_add_5 rfl (by omega) (by omega) (fun c => by first | exact absurd c (by omega) | exact c.elim | exact absurd c (by decide) | exact absurd (by assumption) c | exact absurd c (by assumption)) (fun _ => ?_)
  refine ST.lift (fun _ _ k => T_aload_n (v := .ref to) d_Fi_add_8 rfl (Or.inr ⟨_, rfl⟩) k) ?_
  refine ST.lift (fun _ _ k => T_iload_n d_Fi_add_9 rfl k) ?_
  refine ST.lift (fun _ _ k => T_aload_n (v := .ref f) d_Fi_add_10 rfl (Or.inr ⟨_, rfl⟩) k) ?_
  refine ST.lift (fun _ _ k => T_iload_n d_Fi_add_11 rfl k) ?_
  refine S_laload d_Fi_add_12 a_f (vp_in_nI (by omega) (by omega)) (fun z7 => ?_)
  refine ST.lift (fun _ _ k => T_aload_n (v := .ref g) d_Fi_add_13 rfl (Or.inr ⟨_, rfl⟩) k) ?_
  refine ST.lift (fun _ _ k => T_iload_n d_Fi_add_14 rfl k) ?_
  refine S_laload d_Fi_add_15 a_g (vp_in_nI (by omega) (by omega)) (fun z8 => ?_)
  refine ST.lift (fun _ _ k => T_ladd d_Fi_add_16 k) (S_anyl fun z9 => ?_)
  refine S_lastore d_Fi_add_17 w_to a_to (vp_in_nI (by omega) (by omega)) ?_
  refine S_iincN (a := 2) (b := 1) (L' := [(3, .int (nI 3)), (0, .ref to), (1, .ref f), (2, .ref g)]) d_Fi_add_18 (by decide) rfl rfl rfl ?_
  refine ST.lift (fun _ _ k => T_goto (tgt := 2) d_Fi_add_21 rfl k) ?_
  refine ST.lift (fun _ _ k => T_iload_n d_Fi_add_2 rfl k) ?_
  refine ST.lift (fun _ _ k => T_bipush (v := nI 10) d_Fi_add_3 (by decide) k) ?_
  refine S_icmp_geN d_Fi_add_5 rfl (by omega) (by omega) (fun c => by first | exact absurd c (by omega) | exact c.elim | exact absurd c (by decide) | exact absurd (by assumption) c | exact absurd c (by assumption)) (fun _ => ?_)
  refine ST.lift (fun _ _ k => T_aload_n (v := .ref to) d_Fi_add_8 rfl (Or.inr ⟨_, rfl⟩) k) ?_
  refine ST.lift (fun _ _ k => T_iload_n d_Fi_add_9 rfl k) ?_
  refine ST.lift (fun _ _ k => T_aload_n (v := .ref f) d_Fi_add_10 rfl (Or.inr ⟨_, rfl⟩) k) ?_
  refine ST.lift (fun _ _ k => T_iload_n d_Fi_add_11 rfl k) ?_
  refine S_laload d_Fi_add_12 a_f (vp_in_nI (by omega) (by omega)) (fun z10 => ?_)
  refine ST.lift (fun _ _ k => T_aload_n (v := .ref g) d_Fi_add_13 rfl (Or.inr ⟨_, rfl⟩) k) ?_
  refine ST.lift (fun _ _ k => T_iload_n d_Fi_add_14 rfl k) ?_
  refine S_laload d_Fi_add_15 a_g (vp_in_nI (by omega) (by omega)) (fun z11 => ?_)
  refine ST.lift (fun _ _ k => T_ladd d_Fi_add_16 k) (S_anyl fun z12 => ?_)
  refine S_lastore d_Fi_add_17 w_to a_to (vp_in_nI (by omega) (by omega)) ?_
  refine S_iincN (a := 3) (b := 1) (L' := [(3, .int (nI 4)), (0, .ref to), (1, .ref f), (2, .ref g)]) d_Fi_add_18 (by decide) rfl rfl rfl ?_
  refine ST.lift (fun _ _ k => T_goto (tgt := 2) d_Fi_add_21 rfl k) ?_
  refine ST.lift (fun _ _ k => T_iload_n d_Fi_add_2 rfl k) ?_
  refine ST.lift (fun _ _ k => T_bipush (v := nI 10) d_Fi_add_3 (by decide) k) ?_
  refine S_icmp_geN d_Fi_add_5 rfl (by omega) (by omega) (fun c => by first | exact absurd c (by omega) | exact c.elim | exact absurd c (by decide) | exact absurd (by assumption) c | exact absurd c (by assumption)) (fun _ => ?_)
  refine ST.lift (fun _ _ k => T_aload_n (v := .ref to) d_Fi_add_8 rfl (Or.inr ⟨_, rfl⟩) k) ?_
  refine ST.lift (fun _ _ k => T_iload_n d_Fi_add_9 rfl k) ?_
  refine ST.lift (fun _ _ k => T_aload_n (v := .ref f) d_Fi_add_10 rfl (Or.inr ⟨_, rfl⟩) k) ?_
  refine ST.lift (fun _ _ k => T_iload_n d_Fi_add_11 rfl k) ?_
  refine S_laload d_Fi_add_12 a_f (vp_in_nI (by omega) (by omega)) (fun z13 => ?_)
  refine ST.lift (fun _ _ k => T_aload_n (v := .ref g) d_Fi_add_13 rfl (Or.inr ⟨_, rfl⟩) k) ?_
  refine ST.lift (fun _ _ k => T_iload_n d_Fi_add_14 rfl k) ?_
  refine S_laload d_Fi_add_15 a_g (vp_in_nI (by omega) (by omega)) (fun z14 => ?_)
  refine ST.lift (fun _ _ k => T_ladd d_Fi_add_16 k) (S_anyl fun z15 => ?_)
  refine S_lastore d_Fi_add_17 w_to a_to (vp_in_nI (by omega) (by omega)) ?_
  refine S_iincN (a := 4) (b := 1) (L' := [(3, .int (nI 5)), (0, .ref to), (1, .ref f), (2, .ref g)]) d_Fi_add_18 (by decide) rfl rfl rfl ?_
  refine ST.lift (fun _ _ k => T_goto (tgt := 2) d_Fi_add_21 rfl k) ?_
  refine ST.lift (fun _ _ k => T_iload_n d_Fi_add_2 rfl k) ?_
  refine ST.lift (fun _ _ k => T_bipush (v := nI 10) d_Fi_add_3 (by decide) k) ?_
  refine S_icmp_geN d_Fi_add_5 rfl (by omega) (by omega) (fun c => by first | exact absurd c (by omega) | exact c.elim | exact absurd c (by decide) | exact absurd (by assumption) c | exact absurd c (by assumption)) (fun _ => ?_)
  refine ST.lift (fun _ _ k => T_aload_n (v := .ref to) d_Fi_add_8 rfl (Or.inr ⟨_, rfl⟩) k) ?_
  refine ST.lift (fun _ _ k => T_iload_n d_Fi_add_9 rfl k) ?_
  refine ST.lift (fun _ _ k => T_aload_n (v := .ref f) d_Fi_add_10 rfl (Or.inr ⟨_, rfl⟩) k) ?_
  refine ST.lift (fun _ _ k => T_iload_n d_Fi_add_11 rfl k) ?_
  refine S_laload d_Fi_add_12 a_f (vp_in_nI (by omega) (by omega)) (fun z16 => ?_)
  refine ST.lift (fun _ _ k => T_aload_n (v := .ref g) d_Fi_add_13 rfl (Or.inr ⟨_, rfl⟩) k) ?_
  refine ST.lift (fun _ _ k => T_iload_n d_Fi_add_14 rfl k) ?_
  refine S_laload d_Fi_add_15 a_g (vp_in_nI (by omega) (by omega)) (fun z17 => ?_)
  refine ST.lift (fun _ _ k => T_ladd d_Fi_add_16 k) (S_anyl fun z18 => ?_)
  refine S_lastore d_Fi_add_17 w_to a_to (vp_in_nI (by omega) (by omega)) ?_
  refine S_iincN (a := 5) (b := 1) (L' := [(3, .int (nI 6)), (0, .ref to), (1, .ref f), (2, .ref g)]) d_Fi_add_18 (by decide) rfl rfl rfl ?_
  refine ST.lift (fun _ _ k => T_goto (tgt := 2) d_Fi_add_21 rfl k) ?_
  refine ST.lift (fun _ _ k => T_iload_n d_Fi_add_2 rfl k) ?_
  refine ST.lift (fun _ _ k => T_bipush (v := nI 10) d_Fi_add_3 (by decide) k) ?_
  refine S_icmp_geN d_Fi_add_5 rfl (by omega) (by omega) (fun c => by first | exact absurd c (by omega) | exact c.elim | exact absurd c (by decide) | exact absurd (by assumption) c | exact absurd c (by assumption)) (fun _ => ?_)
  refine ST.lift (fun _ _ k => T_aload_n (v := .ref to) d_Fi_add_8 rfl (Or.inr ⟨_, rfl⟩) k) ?_
  refine ST.lift (fun _ _ k => T_iload_n d_Fi_add_9 rfl k) ?_
  refine ST.lift (fun _ _ k => T_aload_n (v := .ref f) d_Fi_add_10 rfl (Or.inr ⟨_, rfl⟩) k) ?_
  refine ST.lift (fun _ _ k => T_iload_n d_Fi_add_11 rfl k) ?_
  refine S_laload d_Fi_add_12 a_f (vp_in_nI (by omega) (by omega)) (fun z19 => ?_)
  refine ST.lift (fun _ _ k => T_aload_n (v := .ref g) d_Fi_add_13 rfl (Or.inr ⟨_, rfl⟩) k) ?_
  refine ST.lift (fun _ _ k => T_iload_n d_Fi_add_14 rfl k) ?_
  refine S_laload d_Fi_add_15 a_g (vp_in_nI (by omega) (by omega)) (fun z20 => ?_)
  refine ST.lift (fun _ _ k => T_ladd d_Fi_add_16 k) (S_anyl fun z21 => ?_)
  refine S_lastore d_Fi_add_17 w_to a_to (vp_in_nI (by omega) (by omega)) ?_
  refine S_iincN (a := 6) (b := 1) (L' := [(3, .int (nI 7)), (0, .ref to), (1, .ref f), (2, .ref g)]) d_Fi_add_18 (by decide) rfl rfl rfl ?_
  refine ST.lift (fun _ _ k => T_goto (tgt := 2) d_Fi_add_21 rfl k) ?_
  refine ST.lift (fun _ _ k => T_iload_n d_Fi_add_2 rfl k) ?_
  refine ST.lift (fun _ _ k => T_bipush (v := nI 10) d_Fi_add_3 (by decide) k) ?_
  refine S_icmp_geN d_Fi_add_5 rfl (by omega) (by omega) (fun c => by first | exact absurd c (by omega) | exact c.elim | exact absurd c (by decide) | exact absurd (by assumption) c | exact absurd c (by assumption)) (fun _ => ?_)
  refine ST.lift (fun _ _ k => T_aload_n (v := .ref to) d_Fi_add_8 rfl (Or.inr ⟨_, rfl⟩) k) ?_
  refine ST.lift (fun _ _ k => T_iload_n d_Fi_add_9 rfl k) ?_
  refine ST.lift (fun _ _ k => T_aload_n (v := .ref f) d_Fi_add_10 rfl (Or.inr ⟨_, rfl⟩) k) ?_
  refine ST.lift (fun _ _ k => T_iload_n d_Fi_add_11 rfl k) ?_
  refine S_laload d_Fi_add_12 a_f (vp_in_nI (by omega) (by omega)) (fun z22 => ?_)
  refine ST.lift (fun _ _ k => T_aload_n (v := .ref g) d_Fi_add_13 rfl (Or.inr ⟨_, rfl⟩) k) ?_
  refine ST.lift (fun _ _ k => T_iload_n d_Fi_add_14 rfl k) ?_
  refine S_laload d_Fi_add_15 a_g (vp_in_nI (by omega) (by omega)) (fun z23 => ?_)
  refine ST.lift (fun _ _ k => T_ladd d_Fi_add_16 k) (S_anyl fun z24 => ?_)
  refine S_lastore d_Fi_add_17 w_to a_to (vp_in_nI (by omega) (by omega)) ?_
  refine S_iincN (a := 7) (b := 1) (L' := [(3, .int (nI 8)), (0, .ref to), (1, .ref f), (2, .ref g)]) d_Fi_add_18 (by decide) rfl rfl rfl ?_
  refine ST.lift (fun _ _ k => T_goto (tgt := 2) d_Fi_add_21 rfl k) ?_
  refine ST.lift (fun _ _ k => T_iload_n d_Fi_add_2 rfl k) ?_
  refine ST.lift (fun _ _ k => T_bipush (v := nI 10) d_Fi_add_3 (by decide) k) ?_
  refine S_icmp_geN d_Fi_add_5 rfl (by omega) (by omega) (fun c => by first | exact absurd c (by omega) | exact c.elim | exact absurd c (by decide) | exact absurd (by assumption) c | exact absurd c (by assumption)) (fun _ => ?_)
  refine ST.lift (fun _ _ k => T_aload_n (v := .ref to) d_Fi_add_8 rfl (Or.inr ⟨_, rfl⟩) k) ?_
  refine ST.lift (fun _ _ k => T_iload_n d_Fi_add_9 rfl k) ?_
  refine ST.lift (fun _ _ k => T_aload_n (v := .ref f) d_Fi_add_10 rfl (Or.inr ⟨_, rfl⟩) k) ?_
  refine ST.lift (fun _ _ k => T_iload_n d_Fi_add_11 rfl k) ?_
  refine S_laload d_Fi_add_12 a_f (vp_in_nI (by omega) (by omega)) (fun z25 => ?_)
  refine ST.lift (fun _ _ k => T_aload_n (v := .ref g) d_Fi_add_13 rfl (Or.inr ⟨_, rfl⟩) k) ?_
  refine ST.lift (fun _ _ k => T_iload_n d_Fi_add_14 rfl k) ?_
  refine S_laload d_Fi_add_15 a_g (vp_in_nI (by omega) (by omega)) (fun z26 => ?_)
  refine ST.lift (fun _ _ k => T_ladd d_Fi_add_16 k) (S_anyl fun z27 => ?_)
  refine S_lastore d_Fi_add_17 w_to a_to (vp_in_nI (by omega) (by omega)) ?_
  refine S_iincN (a := 8) (b := 1) (L' := [(3, .int (nI 9)), (0, .ref to), (1, .ref f), (2, .ref g)]) d_Fi_add_18 (by decide) rfl rfl rfl ?_
  refine ST.lift (fun _ _ k => T_goto (tgt := 2) d_Fi_add_21 rfl k) ?_
  refine ST.lift (fun _ _ k => T_iload_n d_Fi_add_2 rfl k) ?_
  refine ST.lift (fun _ _ k => T_bipush (v := nI 10) d_Fi_add_3 (by decide) k) ?_
  refine S_icmp_geN d_Fi_add_5 rfl (by omega) (by omega) (fun c => by first | exact absurd c (by omega) | exact c.elim | exact absurd c (by decide) | exact absurd (by assumption) c | exact absurd c (by assumption)) (fun _ => ?_)
  refine ST.lift (fun _ _ k => T_aload_n (v := .ref to) d_Fi_add_8 rfl (Or.inr ⟨_, rfl⟩) k) ?_
  refine ST.lift (fun _ _ k => T_iload_n d_Fi_add_9 rfl k) ?_
  refine ST.lift (fun _ _ k => T_aload_n (v := .ref f) d_Fi_add_10 rfl (Or.inr ⟨_, rfl⟩) k) ?_
  refine ST.lift (fun _ _ k => T_iload_n d_Fi_add_11 rfl k) ?_
  refine S_laload d_Fi_add_12 a_f (vp_in_nI (by omega) (by omega)) (fun z28 => ?_)
  refine ST.lift (fun _ _ k => T_aload_n (v := .ref g) d_Fi_add_13 rfl (Or.inr ⟨_, rfl⟩) k) ?_
  refine ST.lift (fun _ _ k => T_iload_n d_Fi_add_14 rfl k) ?_
  refine S_laload d_Fi_add_15 a_g (vp_in_nI (by omega) (by omega)) (fun z29 => ?_)
  refine ST.lift (fun _ _ k => T_ladd d_Fi_add_16 k) (S_anyl fun z30 => ?_)
  refine S_lastore d_Fi_add_17 w_to a_to (vp_in_nI (by omega) (by omega)) ?_
  refine S_iincN (a := 9) (b := 1) (L' := [(3, .int (nI 10)), (0, .ref to), (1, .ref f), (2, .ref g)]) d_Fi_add_18 (by decide) rfl rfl rfl ?_
  refine ST.lift (fun _ _ k => T_goto (tgt := 2) d_Fi_add_21 rfl k) ?_
  refine ST.lift (fun _ _ k => T_iload_n d_Fi_add_2 rfl k) ?_
  refine ST.lift (fun _ _ k => T_bipush (v := nI 10) d_Fi_add_3 (by decide) k) ?_
  refine S_icmp_geN d_Fi_add_5 rfl (by omega) (by omega) (fun _ => ?_) (fun c => by first | exact absurd c (by omega) | exact c.elim | exact absurd c (by decide) | exact absurd (by assumption) c | exact absurd c (by assumption))
  exact S_vret d_Fi_add_24 rfl (by decide) (by decide) hQ
set_option maxRecDepth 100000 in
set_option maxHeartbeats 4000000 in
theorem c_Fi_subtract (G : GX) (v : Nat → Int32) (to : Nat) (w_to : K0 ≤ to) (a_to : aL to 10) (f : Nat) (a_f : aL f 10) (g : Nat) (a_g : aL g 10) : CS G mi_Fi_subtract [.ref to, .ref f, .ref g] v (fun r v' => r = none ∧ v' = v) := by
  refine CS.of (by decide) (Nat.le_of_ble_eq_true rfl) ?_
  generalize hQe : (fun (r : Option Value) (v' : Nat → Int32) => r = none ∧ v' = v) = Q
  have hQ : Q none v := by rw [← hQe]; exact ⟨rfl, rfl⟩
  clear hQe
  show ST G mi_Fi_subtract 0 [(0, .ref to), (1, .ref f), (2, .ref g)] [] v 0 0 Q
  refine ST.lift (fun _ _ k => T_iconst (v := nI 0) d_Fi_subtract_0 (by decide) k) ?_
  refine ST.lift (fun _ _ k => T_istore_n (L' := [(3, .int (nI 0)), (0, .ref to), (1, .ref f), (2, .ref g)]) d_Fi_subtract_1 (by decide) rfl k) ?_
  refine ST.lift (fun _ _ k => T_iload_n d_Fi_subtract_2 rfl k) ?_
  refine ST.lift (fun _ _ k => T_bipush (v := nI 10) d_Fi_subtract_3 (by decide) k) ?_
  refine S_icmp_geN d_Fi_subtract_5 rfl (by omega) (by omega) (fun c => by first | exact absurd c (by omega) | exact c.elim | exact absurd c (by decide) | exact absurd (by assumption) c | exact absurd c (by assumption)) (fun _ => ?_)
  refine ST.lift (fun _ _ k => T_aload_n (v := .ref to) d_Fi_subtract_8 rfl (Or.inr ⟨_, rfl⟩) k) ?_
  refine ST.lift (fun _ _ k => T_iload_n d_Fi_subtract_9 rfl k) ?_
  refine ST.lift (fun _ _ k => T_aload_n (v := .ref f) d_Fi_subtract_10 rfl (Or.inr ⟨_, rfl⟩) k) ?_
  refine ST.lift (fun _ _ k => T_iload_n d_Fi_subtract_11 rfl k) ?_
  refine S_laload d_Fi_subtract_12 a_f (vp_in_nI (by omega) (by omega)) (fun z1 => ?_)
  refine ST.lift (fun _ _ k => T_aload_n (v := .ref g) d_Fi_subtract_13 rfl (Or.inr ⟨_, rfl⟩) k) ?_
  refine ST.lift (fun _ _ k => T_iload_n d_Fi_subtract_14 rfl k) ?_
  refine S_laload d_Fi_subtract_15 a_g (vp_in_nI (by omega) (by omega)) (fun z2 => ?_)
  refine ST.lift (fun _ _ k => T_lsub d_Fi_subtract_16 k) (S_anyl fun z3 => ?_)
  refine S_lastore d_Fi_subtract_17 w_to a_to (vp_in_nI (by omega) (by omega)) ?_
  refine S_iincN (a := 0) (b := 1) (L' := [(3, .int (nI 1)), (0, .ref to), (1, .ref f), (2, .ref g)]) d_Fi_subtract_18 (by decide) rfl rfl rfl ?_
  refine ST.lift (fun _ _ k => T_goto (tgt := 2) d_Fi_subtract_21 rfl k) ?_
  refine ST.lift (fun _ _ k => T_iload_n d_Fi_subtract_2 rfl k) ?_
  refine ST.lift (fun _ _ k => T_bipush (v := nI 10) d_Fi_subtract_3 (by decide) k) ?_
  refine S_icmp_geN d_Fi_subtract_5 rfl (by omega) (by omega) (fun c => by first | exact absurd c (by omega) | exact c.elim | exact absurd c (by decide) | exact absurd (by assumption) c | exact absurd c (by assumption)) (fun _ => ?_)
  refine ST.lift (fun _ _ k => T_aload_n (v := .ref to) d_Fi_subtract_8 rfl (Or.inr ⟨_, rfl⟩) k) ?_
  refine ST.lift (fun _ _ k => T_iload_n d_Fi_subtract_9 rfl k) ?_
  refine ST.lift (fun _ _ k => T_aload_n (v := .ref f) d_Fi_subtract_10 rfl (Or.inr ⟨_, rfl⟩) k) ?_
  refine ST.lift (fun _ _ k => T_iload_n d_Fi_subtract_11 rfl k) ?_
  refine S_laload d_Fi_subtract_12 a_f (vp_in_nI (by omega) (by omega)) (fun z4 => ?_)
  refine ST.lift (fun _ _ k => T_aload_n (v := .ref g) d_Fi_subtract_13 rfl (Or.inr ⟨_, rfl⟩) k) ?_
  refine ST.lift (fun _ _ k => T_iload_n d_Fi_subtract_14 rfl k) ?_
  refine S_laload d_Fi_subtract_15 a_g (vp_in_nI (by omega) (by omega)) (fun z5 => ?_)
  refine ST.lift (fun _ _ k => T_lsub d_Fi_subtract_16 k) (S_anyl fun z6 => ?_)
  refine S_lastore d_Fi_subtract_17 w_to a_to (vp_in_nI (by omega) (by omega)) ?_
  refine S_iincN (a := 1) (b := 1) (L' := [(3, .int (nI 2)), (0, .ref to), (1, .ref f), (2, .ref g)]) d_Fi_subtract_18 (by decide) rfl rfl rfl ?_
  refine ST.lift (fun _ _ k => T_goto (tgt := 2) d_Fi_subtract_21 rfl k) ?_
  refine ST.lift (fun _ _ k => T_iload_n d_Fi_subtract_2 rfl k) ?_
  refine ST.lift (fun _ _ k => T_bipush (v := nI 10) d_Fi_subtract_3 (by decide) k) ?_
  refine S_icmp_geN d_Fi_subtract_5 rfl (by omega) (by omega) (fun c => by first | exact absurd c (by omega) | exact c.elim | exact absurd c (by decide) | exact absurd (by assumption) c | exact absurd c (by assumption)) (fun _ => ?_)
  refine ST.lift (fun _ _ k => T_aload_n (v := .ref to) d_Fi_subtract_8 rfl (Or.inr ⟨_, rfl⟩) k) ?_
  refine ST.lift (fun _ _ k => T_iload_n d_Fi_subtract_9 rfl k) ?_
  refine ST.lift (fun _ _ k => T_aload_n (v := .ref f) d_Fi_subtract_10 rfl (Or.inr ⟨_, rfl⟩) k) ?_
  refine ST.lift (fun _ _ k => T_iload_n d_Fi_subtract_11 rfl k) ?_
  refine S_laload d_Fi_subtract_12 a_f (vp_in_nI (by omega) (by omega)) (fun z7 => ?_)
  refine ST.lift (fun _ _ k => T_aload_n (v := .ref g) d_Fi_subtract_13 rfl (Or.inr ⟨_, rfl⟩) k) ?_
  refine ST.lift (fun _ _ k => T_iload_n d_Fi_subtract_14 rfl k) ?_
  refine S_laload d_Fi_subtract_15 a_g (vp_in_nI (by omega) (by omega)) (fun z8 => ?_)
  refine ST.lift (fun _ _ k => T_lsub d_Fi_subtract_16 k) (S_anyl fun z9 => ?_)
  refine S_lastore d_Fi_subtract_17 w_to a_to (vp_in_nI (by omega) (by omega)) ?_
  refine S_iincN (a := 2) (b := 1) (L' := [(3, .int (nI 3)), (0, .ref to), (1, .ref f), (2, .ref g)]) d_Fi_subtract_18 (by decide) rfl rfl rfl ?_
  refine ST.lift (fun _ _ k => T_goto (tgt := 2) d_Fi_subtract_21 rfl k) ?_
  refine ST.lift (fun _ _ k => T_iload_n d_Fi_subtract_2 rfl k) ?_
  refine ST.lift (fun _ _ k => T_bipush (v := nI 10) d_Fi_subtract_3 (by decide) k) ?_
  refine S_icmp_geN d_Fi_subtract_5 rfl (by omega) (by omega) (fun c => by first | exact absurd c (by omega) | exact c.elim | exact absurd c (by decide) | exact absurd (by assumption) c | exact absurd c (by assumption)) (fun _ => ?_)
  refine ST.lift (fun _ _ k => T_aload_n (v := .ref to) d_Fi_subtract_8 rfl (Or.inr ⟨_, rfl⟩) k) ?_
  refine ST.lift (fun _ _ k => T_iload_n d_Fi_subtract_9 rfl k) ?_
  refine ST.lift (fun _ _ k => T_aload_n (v := .ref f) d_Fi_subtract_10 rfl (Or.inr ⟨_, rfl⟩) k) ?_
  refine ST.lift (fun _ _ k => T_iload_n d_Fi_subtract_11 rfl k) ?_
  refine S_laload d_Fi_subtract_12 a_f (vp_in_nI (by omega) (by omega)) (fun z10 => ?_)
  refine ST.lift (fun _ _ k => T_aload_n (v := .ref g) d_Fi_subtract_13 rfl (Or.inr ⟨_, rfl⟩) k) ?_
  refine ST.lift (fun _ _ k => T_iload_n d_Fi_subtract_14 rfl k) ?_
  refine S_laload d_Fi_subtract_15 a_g (vp_in_nI (by omega) (by omega)) (fun z11 => ?_)
  refine ST.lift (fun _ _ k => T_lsub d_Fi_subtract_16 k) (S_anyl fun z12 => ?_)
  refine S_lastore d_Fi_subtract_17 w_to a_to (vp_in_nI (by omega) (by omega)) ?_
  refine S_iincN (a := 3) (b := 1) (L' := [(3, .int (nI 4)), (0, .ref to), (1, .ref f), (2, .ref g)]) d_Fi_subtract_18 (by decide) rfl rfl rfl ?_
  refine ST.lift (fun _ _ k => T_goto (tgt := 2) d_Fi_subtract_21 rfl k) ?_
  refine ST.lift (fun _ _ k => T_iload_n d_Fi_subtract_2 rfl k) ?_
  refine ST.lift (fun _ _ k => T_bipush (v := nI 10) d_Fi_subtract_3 (by decide) k) ?_
  refine S_icmp_geN d_Fi_subtract_5 rfl (by omega) (by omega) (fun c => by first | exact absurd c (by omega) | exact c.elim | exact absurd c (by decide) | exact absurd (by assumption) c | exact absurd c (by assumption)) (fun _ => ?_)
  refine ST.lift (fun _ _ k => T_aload_n (v := .ref to) d_Fi_subtract_8 rfl (Or.inr ⟨_, rfl⟩) k) ?_
  refine ST.lift (fun _ _ k => T_iload_n d_Fi_subtract_9 rfl k) ?_
  refine ST.lift (fun _ _ k => T_aload_n (v := .ref f) d_Fi_subtract_10 rfl (Or.inr ⟨_, rfl⟩) k) ?_
  refine ST.lift (fun _ _ k => T_iload_n d_Fi_subtract_11 rfl k) ?_
  refine S_laload d_Fi_subtract_12 a_f (vp_in_nI (by omega) (by omega)) (fun z13 => ?_)
  refine ST.lift (fun _ _ k => T_aload_n (v := .ref g) d_Fi_subtract_13 rfl (Or.inr ⟨_, rfl⟩) k) ?_
  refine ST.lift (fun _ _ k => T_iload_n d_Fi_subtract_14 rfl k) ?_
  refine S_laload d_Fi_subtract_15 a_g (vp_in_nI (by omega) (by omega)) (fun z14 => ?_)
  refine ST.lift (fun _ _ k => T_lsub d_Fi_subtract_16 k) (S_anyl fun z15 => ?_)
  refine S_lastore d_Fi_subtract_17 w_to a_to (vp_in_nI (by omega) (by omega)) ?_
  refine S_iincN (a := 4) (b := 1) (L' := [(3, .int (nI 5)), (0, .ref to), (1, .ref f), (2, .ref g)]) d_Fi_subtract_18 (by decide) rfl rfl rfl ?_
  refine ST.lift (fun _ _ k => T_goto (tgt := 2) d_Fi_subtract_21 rfl k) ?_
  refine ST.lift (fun _ _ k => T_iload_n d_Fi_subtract_2 rfl k) ?_
  refine ST.lift (fun _ _ k => T_bipush (v := nI 10) d_Fi_subtract_3 (by decide) k) ?_
  refine S_icmp_geN d_Fi_subtract_5 rfl (by omega) (by omega) (fun c => by first | exact absurd c (by omega) | exact c.elim | exact absurd c (by decide) | exact absurd (by assumption) c | exact absurd c (by assumption)) (fun _ => ?_)
  refine ST.lift (fun _ _ k => T_aload_n (v := .ref to) d_Fi_subtract_8 rfl (Or.inr ⟨_, rfl⟩) k) ?_
  refine ST.lift (fun _ _ k => T_iload_n d_Fi_subtract_9 rfl k) ?_
  refine ST.lift (fun _ _ k => T_aload_n (v := .ref f) d_Fi_subtract_10 rfl (Or.inr ⟨_, rfl⟩) k) ?_
  refine ST.lift (fun _ _ k => T_iload_n d_Fi_subtract_11 rfl k) ?_
  refine S_laload d_Fi_subtract_12 a_f (vp_in_nI (by omega) (by omega)) (fun z16 => ?_)
  refine ST.lift (fun _ _ k => T_aload_n (v := .ref g) d_Fi_subtract_13 rfl (Or.inr ⟨_, rfl⟩) k) ?_
  refine ST.lift (fun _ _ k => T_iload_n d_Fi_subtract_14 rfl k) ?_
  refine S_laload d_Fi_subtract_15 a_g (vp_in_nI (by omega) (by omega)) (fun z17 => ?_)
  refine ST.lift (fun _ _ k => T_lsub d_Fi_subtract_16 k) (S_anyl fun z18 => ?_)
  refine S_lastore d_Fi_subtract_17 w_to a_to (vp_in_nI (by omega) (by omega)) ?_
  refine S_iincN (a := 5) (b := 1) (L' := [(3, .int (nI 6)), (0, .ref to), (1, .ref f), (2, .ref g)]) d_Fi_subtract_18 (by decide) rfl rfl rfl ?_
  refine ST.lift (fun _ _ k => T_goto (tgt := 2) d_Fi_subtract_21 rfl k) ?_
  refine ST.lift (fun _ _ k => T_iload_n d_Fi_subtract_2 rfl k) ?_
  refine ST.lift (fun _ _ k => T_bipush (v := nI 10) d_Fi_subtract_3 (by decide) k) ?_
  refine S_icmp_geN d_Fi_subtract_5 rfl (by omega) (by omega) (fun c => by first | exact absurd c (by omega) | exact c.elim | exact absurd c (by decide) | exact absurd (by assumption) c | exact absurd c (by assumption)) (fun _ => ?_)
  refine ST.lift (fun _ _ k => T_aload_n (v := .ref to) d_Fi_subtract_8 rfl (Or.inr ⟨_, rfl⟩) k) ?_
  refine ST.lift (fun _ _ k => T_iload_n d_Fi_subtract_9 rfl k) ?_
  refine ST.lift (fun _ _ k => T_aload_n (v := .ref f) d_Fi_subtract_10 rfl (Or.inr ⟨_, rfl⟩) k) ?_
  refine ST.lift (fun _ _ k => T_iload_n d_Fi_subtract_11 rfl k) ?_
  refine S_laload d_Fi_subtract_12 a_f (vp_in_nI (by omega) (by omega)) (fun z19 => ?_)
  refine ST.lift (fun _ _ k => T_aload_n (v := .ref g) d_Fi_subtract_13 rfl (Or.inr ⟨_, rfl⟩) k) ?_
  refine ST.lift (fun _ _ k => T_iload_n d_Fi_subtract_14 rfl k) ?_
  refine S_laload d_Fi_subtract_15 a_g (vp_in_nI (by omega) (by omega)) (fun z20 => ?_)
  refine ST.lift (fun _ _ k => T_lsub d_Fi_subtract_16 k) (S_anyl fun z21 => ?_)
  refine S_lastore d_Fi_subtract_17 w_to a_to (vp_in_nI (by omega) (by omega)) ?_
  refine S_iincN (a := 6) (b := 1) (L' := [(3, .int (nI 7)), (0, .ref to), (1, .ref f), (2, .ref g)]) d_Fi_subtract_18 (by decide) rfl rfl rfl ?_
  refine ST.lift (fun _ _ k => T_goto (tgt := 2) d_Fi_subtract_21 rfl k) ?_
  refine ST.lift (fun _ _ k => T_iload_n d_Fi_subtract_2 rfl k) ?_
  refine ST.lift (fun _ _ k => T_bipush (v := nI 10) d_Fi_subtract_3 (by decide) k) ?_
  refine S_icmp_geN d_Fi_subtract_5 rfl (by omega) (by omega) (fun c => by first | exact absurd c (by omega) | exact c.elim | exact absurd c (by decide) | exact absurd (by assumption) c | exact absurd c (by assumption)) (fun _ => ?_)
  refine ST.lift (fun _ _ k => T_aload_n (v := .ref to) d_Fi_subtract_8 rfl (Or.inr ⟨_, rfl⟩) k) ?_
  refine ST.lift (fun _ _ k => T_iload_n d_Fi_subtract_9 rfl k) ?_
  refine ST.lift (fun _ _ k => T_aload_n (v := .ref f) d_Fi_subtract_10 rfl (Or.inr ⟨_, rfl⟩) k) ?_
  refine ST.lift (fun _ _ k => T_iload_n d_Fi_subtract_11 rfl k) ?_
  refine S_laload d_Fi_subtract_12 a_f (vp_in_nI (by omega) (by omega)) (fun z22 => ?_)
  refine ST.lift (fun _ _ k => T_aload_n (v := .ref g) d_Fi_subtract_13 rfl (Or.inr ⟨_, rfl⟩) k) ?_
  refine ST.lift (fun _ _ k => T_iload_n d_Fi_subtract_14 rfl k) ?_
  refine S_laload d_Fi_subtract_15 a_g (vp_in_nI (by omega) (by omega)) (fun z23 => ?_)
  refine ST.lift (fun _ _ k => T_lsub d_Fi_subtract_16 k) (S_anyl fun z24 => ?_)
  refine S_lastore d_Fi_subtract_17 w_to a_to (vp_in_nI (by omega) (by omega)) ?_
  refine S_iincN (a := 7) (b := 1) (L' := [(3, .int (nI 8)), (0, .ref to), (1, .ref f), (2, .ref g)]) d_Fi_subtract_18 (by decide) rfl rfl rfl ?_
  refine ST.lift (fun _ _ k => T_goto (tgt := 2) d_Fi_subtract_21 rfl k) ?_
  refine ST.lift (fun _ _ k => T_iload_n d_Fi_subtract_2 rfl k) ?_
  refine ST.lift (fun _ _ k => T_bipush (v := nI 10) d_Fi_subtract_3 (by decide) k) ?_
  refine S_icmp_geN d_Fi_subtract_5 rfl (by omega) (by omega) (fun c => by first | exact absurd c (by omega) | exact c.elim | exact absurd c (by decide) | exact absurd (by assumption) c | exact absurd c (by assumption)) (fun _ => ?_)
  refine ST.lift (fun _ _ k => T_aload_n (v := .ref to) d_Fi_subtract_8 rfl (Or.inr ⟨_, rfl⟩) k) ?_
  refine ST.lift (fun _ _ k => T_iload_n d_Fi_subtract_9 rfl k) ?_
  refine ST.lift (fun _ _ k => T_aload_n (v := .ref f) d_Fi_subtract_10 rfl (Or.inr ⟨_, rfl⟩) k) ?_
  refine ST.lift (fun _ _ k => T_iload_n d_Fi_subtract_11 rfl k) ?_
  refine S_laload d_Fi_subtract_12 a_f (vp_in_nI (by omega) (by omega)) (fun z25 => ?_)
  refine ST.lift (fun _ _ k => T_aload_n (v := .ref g) d_Fi_subtract_13 rfl (Or.inr ⟨_, rfl⟩) k) ?_
  refine ST.lift (fun _ _ k => T_iload_n d_Fi_subtract_14 rfl k) ?_
  refine S_laload d_Fi_subtract_15 a_g (vp_in_nI (by omega) (by omega)) (fun z26 => ?_)
  refine ST.lift (fun _ _ k => T_lsub d_Fi_subtract_16 k) (S_anyl fun z27 => ?_)
  refine S_lastore d_Fi_subtract_17 w_to a_to (vp_in_nI (by omega) (by omega)) ?_
  refine S_iincN (a := 8) (b := 1) (L' := [(3, .int (nI 9)), (0, .ref to), (1, .ref f), (2, .ref g)]) d_Fi_subtract_18 (by decide) rfl rfl rfl ?_
  refine ST.lift (fun _ _ k => T_goto (tgt := 2) d_Fi_subtract_21 rfl k) ?_
  refine ST.lift (fun _ _ k => T_iload_n d_Fi_subtract_2 rfl k) ?_
  refine ST.lift (fun _ _ k => T_bipush (v := nI 10) d_Fi_subtract_3 (by decide) k) ?_
  refine S_icmp_geN d_Fi_subtract_5 rfl (by omega) (by omega) (fun c => by first | exact absurd c (by omega) | exact c.elim | exact absurd c (by decide) | exact absurd (by assumption) c | exact absurd c (by assumption)) (fun _ => ?_)
  refine ST.lift (fun _ _ k => T_aload_n (v := .ref to) d_Fi_subtract_8 rfl (Or.inr ⟨_, rfl⟩) k) ?_
  refine ST.lift (fun _ _ k => T_iload_n d_Fi_subtract_9 rfl k) ?_
  refine ST.lift (fun _ _ k => T_aload_n (v := .ref f) d_Fi_subtract_10 rfl (Or.inr ⟨_, rfl⟩) k) ?_
  refine ST.lift (fun _ _ k => T_iload_n d_Fi_subtract_11 rfl k) ?_
  refine S_laload d_Fi_subtract_12 a_f (vp_in_nI (by omega) (by omega)) (fun z28 => ?_)
  refine ST.lift (fun _ _ k => T_aload_n (v := .ref g) d_Fi_subtract_13 rfl (Or.inr ⟨_, rfl⟩) k) ?_
  refine ST.lift (fun _ _ k => T_iload_n d_Fi_subtract_14 rfl k) ?_
  refine S_laload d_Fi_subtract_15 a_g (vp_in_nI (by omega) (by omega)) (fun z29 => ?_)
  refine ST.lift (fun _ _ k => T_lsub d_Fi_subtract_16 k) (S_anyl fun z30 => ?_)
  refine S_lastore d_Fi_subtract_17 w_to a_to (vp_in_nI (by omega) (by omega)) ?_
  refine S_iincN (a := 9) (b := 1) (L' := [(3, .int (nI 10)), (0, .ref to), (1, .ref f), (2, .ref g)]) d_Fi_subtract_18 (by decide) rfl rfl rfl ?_
  refine ST.lift (fun _ _ k => T_goto (tgt := 2) d_Fi_subtract_21 rfl k) ?_
  refine ST.lift (fun _ _ k => T_iload_n d_Fi_subtract_2 rfl k) ?_
  refine ST.lift (fun _ _ k => T_bipush (v := nI 10) d_Fi_subtract_3 (by decide) k) ?_
  refine S_icmp_geN d_Fi_subtract_5 rfl (by omega) (by omega) (fun _ => ?_) (fun c => by first | exact absurd c (by omega) | exact c.elim | exact absurd c (by decide) | exact absurd (by assumption) c | exact absurd c (by assumption))
  exact S_vret d_Fi_subtract_24 rfl (by decide) (by decide) hQ
set_option maxRecDepth 100000 in
set_option maxHeartbeats 4000000 in
theorem c_Fi_multiply (G : GX) (v : Nat → Int32) (to : Nat) (w_to : K0 ≤ to) (a_to : aL to 10) (f : Nat) (a_f : aL f 10) (g : Nat) (a_g : aL g 10) : CS G mi_Fi_multiply [.ref to, .ref f, .ref g] v (fun r v' => r = none ∧ v' = v) := by
  refine CS.of (by decide) (Nat.le_of_ble_eq_true rfl) ?_
  generalize hQe : (fun (r : Option Value) (v' : Nat → Int32) => r = none ∧ v' = v) = Q
  have hQ : Q none v := by rw [← hQe]; exact ⟨rfl, rfl⟩
  clear hQe
  show ST G mi_Fi_multiply 0 [(0, .ref to), (1, .ref f), (2, .ref g)] [] v 0 0 Q
  refine ST.lift (fun _ _ k => T_aload_n (v := .ref f) d_Fi_multiply_0 rfl (Or.inr ⟨_, rfl⟩) k) ?_
  refine ST.lift (fun _ _ k => T_iconst (v := nI 0) d_Fi_multiply_1 (by decide) k) ?_
  refine S_laload d_Fi_multiply_2 a_f (vp_in_nI (by omega) (by omega)) (fun z1 => ?_)
  refine ST.lift (fun _ _ k => T_lstore_n (L' := [(3, .long z1), (0, .ref to), (1, .ref f), (2, .ref g)]) d_Fi_multiply_3 (by decide) rfl k) ?_
  refine ST.lift (fun _ _ k => T_aload_n (v := .ref f) d_Fi_multiply_4 rfl (Or.inr ⟨_, rfl⟩) k) ?_
  refine ST.lift (fun _ _ k => T_iconst (v := nI 1) d_Fi_multiply_5 (by decide) k) ?_
  refine S_laload d_Fi_multiply_6 a_f (vp_in_nI (by omega) (by omega)) (fun z2 => ?_)
  refine ST.lift (fun _ _ k => T_lstore (L' := [(5, .long z2), (3, .long z1), (0, .ref to), (1, .ref f), (2, .ref g)]) d_Fi_multiply_7 (by decide) rfl k) ?_
  refine ST.lift (fun _ _ k => T_aload_n (v := .ref f) d_Fi_multiply_9 rfl (Or.inr ⟨_, rfl⟩) k) ?_
  refine ST.lift (fun _ _ k => T_iconst (v := nI 2) d_Fi_multiply_10 (by decide) k) ?_
  refine S_laload d_Fi_multiply_11 a_f (vp_in_nI (by omega) (by omega)) (fun z3 => ?_)
  refine ST.lift (fun _ _ k => T_lstore (L' := [(7, .long z3), (5, .long z2), (3, .long z1), (0, .ref to), (1, .ref f), (2, .ref g)]) d_Fi_multiply_12 (by decide) rfl k) ?_
  refine ST.lift (fun _ _ k => T_aload_n (v := .ref f) d_Fi_multiply_14 rfl (Or.inr ⟨_, rfl⟩) k) ?_
  refine ST.lift (fun _ _ k => T_iconst (v := nI 3) d_Fi_multiply_15 (by decide) k) ?_
  refine S_laload d_Fi_multiply_16 a_f (vp_in_nI (by omega) (by omega)) (fun z4 => ?_)
  refine ST.lift (fun _ _ k => T_lstore (L' := [(9, .long z4), (7, .long z3), (5, .long z2), (3, .long z1), (0, .ref to), (1, .ref f), (2, .ref g)]) d_Fi_multiply_17 (by decide) rfl k) ?_
  refine ST.lift (fun _ _ k => T_aload_n (v := .ref f) d_Fi_multiply_19 rfl (Or.inr ⟨_, rfl⟩) k) ?_
  refine ST.lift (fun _ _ k => T_iconst (v := nI 4) d_Fi_multiply_20 (by decide) k) ?_
  refine S_laload d_Fi_multiply_21 a_f (vp_in_nI (by omega) (by omega)) (fun z5 => ?_)
  refine ST.lift (fun _ _ k => T_lstore (L' := [(11, .long z5), (9, .long z4), (7, .long z3), (5, .long z2), (3, .long z1), (0, .ref to), (1, .ref f), (2, .ref g)]) d_Fi_multiply_22 (by decide) rfl k) ?_
  refine ST.lift (fun _ _ k => T_aload_n (v := .ref f) d_Fi_multiply_24 rfl (Or.inr ⟨_, rfl⟩) k) ?_
  refine ST.lift (fun _ _ k => T_iconst (v := nI 5) d_Fi_multiply_25 (by decide) k) ?_
  refine S_laload d_Fi_multiply_26 a_f (vp_in_nI (by omega) (by omega)) (fun z6 => ?_)
  refine ST.lift (fun _ _ k => T_lstore (L' := [(13, .long z6), (11, .long z5), (9, .long z4), (7, .long z3), (5, .long z2), (3, .long z1), (0, .ref to), (1, .ref f), (2, .ref g)]) d_Fi_multiply_27 (by decide) rfl k) ?_
  refine ST.lift (fun _ _ k => T_aload_n (v := .ref f) d_Fi_multiply_29 rfl (Or.inr ⟨_, rfl⟩) k) ?_
  refine ST.lift (fun _ _ k => T_bipush (v := nI 6) d_Fi_multiply_30 (by decide) k) ?_
  refine S_laload d_Fi_multiply_32 a_f (vp_in_nI (by omega) (by omega)) (fun z7 => ?_)
  refine ST.lift (fun _ _ k => T_lstore (L' := [(15, .long z7), (13, .long z6), (11, .long z5), (9, .long z4), (7, .long z3), (5, .long z2), (3, .long z1), (0, .ref to), (1, .ref f), (2, .ref g)]) d_Fi_multiply_33 (by decide) rfl k) ?_
  refine ST.lift (fun _ _ k => T_aload_n (v := .ref f) d_Fi_multiply_35 rfl (Or.inr ⟨_, rfl⟩) k) ?_
  refine ST.lift (fun _ _ k => T_bipush (v := nI 7) d_Fi_multiply_36 (by decide) k) ?_
  refine S_laload d_Fi_multiply_38 a_f (vp_in_nI (by omega) (by omega)) (fun z8 => ?_)
  refine ST.lift (fun _ _ k => T_lstore (L' := [(17, .long z8), (15, .long z7), (13, .long z6), (11, .long z5), (9, .long z4), (7, .long z3), (5, .long z2), (3, .long z1), (0, .ref to), (1, .ref f), (2, .ref g)]) d_Fi_multiply_39 (by decide) rfl k) ?_
  refine ST.lift (fun _ _ k => T_aload_n (v := .ref f) d_Fi_multiply_41 rfl (Or.inr ⟨_, rfl⟩) k) ?_
  refine ST.lift (fun _ _ k => T_bipush (v := nI 8) d_Fi_multiply_42 (by decide) k) ?_
  refine S_laload d_Fi_multiply_44 a_f (vp_in_nI (by omega) (by omega)) (fun z9 => ?_)
  refine ST.lift (fun _ _ k => T_lstore (L' := [(19, .long z9), (17, .long z8), (15, .long z7), (13, .long z6), (11, .long z5), (9, .long z4), (7, .long z3), (5, .long z2), (3, .long z1), (0, .ref to), (1, .ref f), (2, .ref g)]) d_Fi_multiply_45 (by decide) rfl k) ?_
  refine ST.lift (fun _ _ k => T_aload_n (v := .ref f) d_Fi_multiply_47 rfl (Or.inr ⟨_, rfl⟩) k) ?_
  refine ST.lift (fun _ _ k => T_bipush (v := nI 9) d_Fi_multiply_48 (by decide) k) ?_
  refine S_laload d_Fi_multiply_50 a_f (vp_in_nI (by omega) (by omega)) (fun z10 => ?_)
  refine ST.lift (fun _ _ k => T_lstore (L' := [(21, .long z10), (19, .long z9), (17, .long z8), (15, .long z7), (13, .long z6), (11, .long z5), (9, .long z4), (7, .long z3), (5, .long z2), (3, .long z1), (0, .ref to), (1, .ref f), (2, .ref g)]) d_Fi_multiply_51 (by decide) rfl k) ?_
  refine ST.lift (fun _ _ k => T_aload_n (v := .ref g) d_Fi_multiply_53 rfl (Or.inr ⟨_, rfl⟩) k) ?_
  refine ST.lift (fun _ _ k => T_iconst (v := nI 0) d_Fi_multiply_54 (by decide) k) ?_
  refine S_laload d_Fi_multiply_55 a_g (vp_in_nI (by omega) (by omega)) (fun z11 => ?_)
  refine ST.lift (fun _ _ k => T_lstore (L' := [(23, .long z11), (21, .long z10), (19, .long z9), (17, .long z8), (15, .long z7), (13, .long z6), (11, .long z5), (9, .long z4), (7, .long z3), (5, .long z2), (3, .long z1), (0, .ref to), (1, .ref f), (2, .ref g)]) d_Fi_multiply_56 (by decide) rfl k) ?_
  refine ST.lift (fun _ _ k => T_aload_n (v := .ref g) d_Fi_multiply_58 rfl (Or.inr ⟨_, rfl⟩) k) ?_
  refine ST.lift (fun _ _ k => T_iconst (v := nI 1) d_Fi_multiply_59 (by decide) k) ?_
  refine S_laload d_Fi_multiply_60 a_g (vp_in_nI (by omega) (by omega)) (fun z12 => ?_)
  refine ST.lift (fun _ _ k => T_lstore (L' := [(25, .long z12), (23, .long z11), (21, .long z10), (19, .long z9), (17, .long z8), (15, .long z7), (13, .long z6), (11, .long z5), (9, .long z4), (7, .long z3), (5, .long z2), (3, .long z1), (0, .ref to), (1, .ref f), (2, .ref g)]) d_Fi_multiply_61 (by decide) rfl k) ?_
  refine ST.lift (fun _ _ k => T_aload_n (v := .ref g) d_Fi_multiply_63 rfl (Or.inr ⟨_, rfl⟩) k) ?_
  refine ST.lift (fun _ _ k => T_iconst (v := nI 2) d_Fi_multiply_64 (by decide) k) ?_
  refine S_laload d_Fi_multiply_65 a_g (vp_in_nI (by omega) (by omega)) (fun z13 => ?_)
  refine ST.lift (fun _ _ k => T_lstore (L' := [(27, .long z13), (25, .long z12), (23, .long z11), (21, .long z10), (19, .long z9), (17, .long z8), (15, .long z7), (13, .long z6), (11, .long z5), (9, .long z4), (7, .long z3), (5, .long z2), (3, .long z1), (0, .ref to), (1, .ref f), (2, .ref g)]) d_Fi_multiply_66 (by decide) rfl k) ?_
  refine ST.lift (fun _ _ k => T_aload_n (v := .ref g) d_Fi_multiply_68 rfl (Or.inr ⟨_, rfl⟩) k) ?_
  refine ST.lift (fun _ _ k => T_iconst (v := nI 3) d_Fi_multiply_69 (by decide) k) ?_
  refine S_laload d_Fi_multiply_70 a_g (vp_in_nI (by omega) (by omega)) (fun z14 => ?_)
  refine ST.lift (fun _ _ k => T_lstore (L' := [(29, .long z14), (27, .long z13), (25, .long z12), (23, .long z11), (21, .long z10), (19, .long z9), (17, .long z8), (15, .long z7), (13, .long z6), (11, .long z5), (9, .long z4), (7, .long z3), (5, .long z2), (3, .long z1), (0, .ref to), (1, .ref f), (2, .ref g)]) d_Fi_multiply_71 (by decide) rfl k) ?_
  refine ST.lift (fun _ _ k => T_aload_n (v := .ref g) d_Fi_multiply_73 rfl (Or.inr ⟨_, rfl⟩) k) ?_
  refine ST.lift (fun _ _ k => T_iconst (v := nI 4) d_Fi_multiply_74 (by decide) k) ?_
  refine S_laload d_Fi_multiply_75 a_g (vp_in_nI (by omega) (by omega)) (fun z15 => ?_)
  refine ST.lift (fun _ _ k => T_lstore (L' := [(31, .long z15), (29, .long z14), (27, .long z13), (25, .long z12), (23, .long z11), (21, .long z10), (19, .long z9), (17, .long z8), (15, .long z7), (13, .long z6), (11, .long z5), (9, .long z4), (7, .long z3), (5, .long z2), (3, .long z1), (0, .ref to), (1, .ref f), (2, .ref g)]) d_Fi_multiply_76 (by decide) rfl k) ?_
  refine ST.lift (fun _ _ k => T_aload_n (v := .ref g) d_Fi_multiply_78 rfl (Or.inr ⟨_, rfl⟩) k) ?_
  refine ST.lift (fun _ _ k => T_iconst (v := nI 5) d_Fi_multiply_79 (by decide) k) ?_
  refine S_laload d_Fi_multiply_80 a_g (vp_in_nI (by omega) (by omega)) (fun z16 => ?_)
  refine ST.lift (fun _ _ k => T_lstore (L' := [(33, .long z16), (31, .long z15), (29, .long z14), (27, .long z13), (25, .long z12), (23, .long z11), (21, .long z10), (19, .long z9), (17, .long z8), (15, .long z7), (13, .long z6), (11, .long z5), (9, .long z4), (7, .long z3), (5, .long z2), (3, .long z1), (0, .ref to), (1, .ref f), (2, .ref g)]) d_Fi_multiply_81 (by decide) rfl k) ?_
  refine ST.lift (fun _ _ k => T_aload_n (v := .ref g) d_Fi_multiply_83 rfl (Or.inr ⟨_, rfl⟩) k) ?_
  refine ST.lift (fun _ _ k => T_bipush (v := nI 6) d_Fi_multiply_84 (by decide) k) ?_
  refine S_laload d_Fi_multiply_86 a_g (vp_in_nI (by omega) (by omega)) (fun z17 => ?_)
  refine ST.lift (fun _ _ k => T_lstore (L' := [(35, .long z17), (33, .long z16), (31, .long z15), (29, .long z14), (27, .long z13), (25, .long z12), (23, .long z11), (21, .long z10), (19, .long z9), (17, .long z8), (15, .long z7), (13, .long z6), (11, .long z5), (9, .long z4), (7, .long z3), (5, .long z2), (3, .long z1), (0, .ref to), (1, .ref f), (2, .ref g)]) d_Fi_multiply_87 (by decide) rfl k) ?_
  refine ST.lift (fun _ _ k => T_aload_n (v := .ref g) d_Fi_multiply_89 rfl (Or.inr ⟨_, rfl⟩) k) ?_
  refine ST.lift (fun _ _ k => T_bipush (v := nI 7) d_Fi_multiply_90 (by decide) k) ?_
  refine S_laload d_Fi_multiply_92 a_g (vp_in_nI (by omega) (by omega)) (fun z18 => ?_)
  refine ST.lift (fun _ _ k => T_lstore (L' := [(37, .long z18), (35, .long z17), (33, .long z16), (31, .long z15), (29, .long z14), (27, .long z13), (25, .long z12), (23, .long z11), (21, .long z10), (19, .long z9), (17, .long z8), (15, .long z7), (13, .long z6), (11, .long z5), (9, .long z4), (7, .long z3), (5, .long z2), (3, .long z1), (0, .ref to), (1, .ref f), (2, .ref g)]) d_Fi_multiply_93 (by decide) rfl k) ?_
  refine ST.lift (fun _ _ k => T_aload_n (v := .ref g) d_Fi_multiply_95 rfl (Or.inr ⟨_, rfl⟩) k) ?_
  refine ST.lift (fun _ _ k => T_bipush (v := nI 8) d_Fi_multiply_96 (by decide) k) ?_
  refine S_laload d_Fi_multiply_98 a_g (vp_in_nI (by omega) (by omega)) (fun z19 => ?_)
  refine ST.lift (fun _ _ k => T_lstore (L' := [(39, .long z19), (37, .long z18), (35, .long z17), (33, .long z16), (31, .long z15), (29, .long z14), (27, .long z13), (25, .long z12), (23, .long z11), (21, .long z10), (19, .long z9), (17, .long z8), (15, .long z7), (13, .long z6), (11, .long z5), (9, .long z4), (7, .long z3), (5, .long z2), (3, .long z1), (0, .ref to), (1, .ref f), (2, .ref g)]) d_Fi_multiply_99 (by decide) rfl k) ?_
  refine ST.lift (fun _ _ k => T_aload_n (v := .ref g) d_Fi_multiply_101 rfl (Or.inr ⟨_, rfl⟩) k) ?_
  refine ST.lift (fun _ _ k => T_bipush (v := nI 9) d_Fi_multiply_102 (by decide) k) ?_
  refine S_laload d_Fi_multiply_104 a_g (vp_in_nI (by omega) (by omega)) (fun z20 => ?_)
  refine ST.lift (fun _ _ k => T_lstore (L' := [(41, .long z20), (39, .long z19), (37, .long z18), (35, .long z17), (33, .long z16), (31, .long z15), (29, .long z14), (27, .long z13), (25, .long z12), (23, .long z11), (21, .long z10), (19, .long z9), (17, .long z8), (15, .long z7), (13, .long z6), (11, .long z5), (9, .long z4), (7, .long z3), (5, .long z2), (3, .long z1), (0, .ref to), (1, .ref f), (2, .ref g)]) d_Fi_multiply_105 (by decide) rfl k) ?_
  refine ST.lift (fun _ _ k => T_ldc2 d_Fi_multiply_107 kJ_Fi_31 k) ?_
  refine ST.lift (fun _ _ k => T_lload d_Fi_multiply_110 rfl k) ?_
  refine ST.lift (fun _ _ k => T_lmul d_Fi_multiply_112 k) (S_anyl fun z21 => ?_)
  refine ST.lift (fun _ _ k => T_lstore (L' := [(43, .long z21), (41, .long z20), (39, .long z19), (37, .long z18), (35, .long z17), (33, .long z16), (31, .long z15), (29, .long z14), (27, .long z13), (25, .long z12), (23, .long z11), (21, .long z10), (19, .long z9), (17, .long z8), (15, .long z7), (13, .long z6), (11, .long z5), (9, .long z4), (7, .long z3), (5, .long z2), (3, .long z1), (0, .ref to), (1, .ref f), (2, .ref g)]) d_Fi_multiply_113 (by decide) rfl k) ?_
  refine ST.lift (fun _ _ k => T_ldc2 d_Fi_multiply_115 kJ_Fi_31 k) ?_
  refine ST.lift (fun _ _ k => T_lload d_Fi_multiply_118 rfl k) ?_
  refine ST.lift (fun _ _ k => T_lmul d_Fi_multiply_120 k) (S_anyl fun z22 => ?_)
  refine ST.lift (fun _ _ k => T_lstore (L' := [(45, .long z22), (43, .long z21), (41, .long z20), (39, .long z19), (37, .long z18), (35, .long z17), (33, .long z16), (31, .long z15), (29, .long z14), (27, .long z13), (25, .long z12), (23, .long z11), (21, .long z10), (19, .long z9), (17, .long z8), (15, .long z7), (13, .long z6), (11, .long z5), (9, .long z4), (7, .long z3), (5, .long z2), (3, .long z1), (0, .ref to), (1, .ref f), (2, .ref g)]) d_Fi_multiply_121 (by decide) rfl k) ?_
  refine ST.lift (fun _ _ k => T_ldc2 d_Fi_multiply_123 kJ_Fi_31 k) ?_
  refine ST.lift (fun _ _ k => T_lload d_Fi_multiply_126 rfl k) ?_
  refine ST.lift (fun _ _ k => T_lmul d_Fi_multiply_128 k) (S_anyl fun z23 => ?_)
  refine ST.lift (fun _ _ k => T_lstore (L' := [(47, .long z23), (45, .long z22), (43, .long z21), (41, .long z20), (39, .long z19), (37, .long z18), (35, .long z17), (33, .long z16), (31, .long z15), (29, .long z14), (27, .long z13), (25, .long z12), (23, .long z11), (21, .long z10), (19, .long z9), (17, .long z8), (15, .long z7), (13, .long z6), (11, .long z5), (9, .long z4), (7, .long z3), (5, .long z2), (3, .long z1), (0, .ref to), (1, .ref f), (2, .ref g)]) d_Fi_multiply_129 (by decide) rfl k) ?_
  refine ST.lift (fun _ _ k => T_ldc2 d_Fi_multiply_131 kJ_Fi_31 k) ?_
  refine ST.lift (fun _ _ k => T_lload d_Fi_multiply_134 rfl k) ?_
  refine ST.lift (fun _ _ k => T_lmul d_Fi_multiply_136 k) (S_anyl fun z24 => ?_)
  refine ST.lift (fun _ _ k => T_lstore (L' := [(49, .long z24), (47, .long z23), (45, .long z22), (43, .long z21), (41, .long z20), (39, .long z19), (37, .long z18), (35, .long z17), (33, .long z16), (31, .long z15), (29, .long z14), (27, .long z13), (25, .long z12), (23, .long z11), (21, .long z10), (19, .long z9), (17, .long z8), (15, .long z7), (13, .long z6), (11, .long z5), (9, .long z4), (7, .long z3), (5, .long z2), (3, .long z1), (0, .ref to), (1, .ref f), (2, .ref g)]) d_Fi_multiply_137 (by decide) rfl k) ?_
  refine ST.lift (fun _ _ k => T_ldc2 d_Fi_multiply_139 kJ_Fi_31 k) ?_
  refine ST.lift (fun _ _ k => T_lload d_Fi_multiply_142 rfl k) ?_
  refine ST.lift (fun _ _ k => T_lmul d_Fi_multiply_144 k) (S_anyl fun z25 => ?_)
  refine ST.lift (fun _ _ k => T_lstore (L' := [(51, .long z25), (49, .long z24), (47, .long z23), (45, .long z22), (43, .long z21), (41, .long z20), (39, .long z19), (37, .long z18), (35, .long z17), (33, .long z16), (31, .long z15), (29, .long z14), (27, .long z13), (25, .long z12), (23, .long z11), (21, .long z10), (19, .long z9), (17, .long z8), (15, .long z7), (13, .long z6), (11, .long z5), (9, .long z4), (7, .long z3), (5, .long z2), (3, .long z1), (0, .ref to), (1, .ref f), (2, .ref g)]) d_Fi_multiply_145 (by decide) rfl k) ?_
  refine ST.lift (fun _ _ k => T_ldc2 d_Fi_multiply_147 kJ_Fi_31 k) ?_
  refine ST.lift (fun _ _ k => T_lload d_Fi_multiply_150 rfl k) ?_
  refine ST.lift (fun _ _ k => T_lmul d_Fi_multiply_152 k) (S_anyl fun z26 => ?_)
  refine ST.lift (fun _ _ k => T_lstore (L' := [(53, .long z26), (51, .long z25), (49, .long z24), (47, .long z23), (45, .long z22), (43, .long z21), (41, .long z20), (39, .long z19), (37, .long z18), (35, .long z17), (33, .long z16), (31, .long z15), (29, .long z14), (27, .long z13), (25, .long z12), (23, .long z11), (21, .long z10), (19, .long z9), (17, .long z8), (15, .long z7), (13, .long z6), (11, .long z5), (9, .long z4), (7, .long z3), (5, .long z2), (3, .long z1), (0, .ref to), (1, .ref f), (2, .ref g)]) d_Fi_multiply_153 (by decide) rfl k) ?_
  refine ST.lift (fun _ _ k => T_ldc2 d_Fi_multiply_155 kJ_Fi_31 k) ?_
  refine ST.lift (fun _ _ k => T_lload d_Fi_multiply_158 rfl k) ?_
  refine ST.lift (fun _ _ k => T_lmul d_Fi_multiply_160 k) (S_anyl fun z27 => ?_)
  refine ST.lift (fun _ _ k => T_lstore (L' := [(55, .long z27), (53, .long z26), (51, .long z25), (49, .long z24), (47, .long z23), (45, .long z22), (43, .long z21), (41, .long z20), (39, .long z19), (37, .long z18), (35, .long z17), (33, .long z16), (31, .long z15), (29, .long z14), (27, .long z13), (25, .long z12), (23, .long z11), (21, .long z10), (19, .long z9), (17, .long z8), (15, .long z7), (13, .long z6), (11, .long z5), (9, .long z4), (7, .long z3), (5, .long z2), (3, .long z1), (0, .ref to), (1, .ref f), (2, .ref g)]) d_Fi_multiply_161 (by decide) rfl k) ?_
  refine ST.lift (fun _ _ k => T_ldc2 d_Fi_multiply_163 kJ_Fi_31 k) ?_
  refine ST.lift (fun _ _ k => T_lload d_Fi_multiply_166 rfl k) ?_
  refine ST.lift (fun _ _ k => T_lmul d_Fi_multiply_168 k) (S_anyl fun z28 => ?_)
  refine ST.lift (fun _ _ k => T_lstore (L' := [(57, .long z28), (55, .long z27), (53, .long z26), (51, .long z25), (49, .long z24), (47, .long z23), (45, .long z22), (43, .long z21), (41, .long z20), (39, .long z19), (37, .long z18), (35, .long z17), (33, .long z16), (31, .long z15), (29, .long z14), (27, .long z13), (25, .long z12), (23, .long z11), (21, .long z10), (19, .long z9), (17, .long z8), (15, .long z7), (13, .long z6), (11, .long z5), (9, .long z4), (7, .long z3), (5, .long z2), (3, .long z1), (0, .ref to), (1, .ref f), (2, .ref g)]) d_Fi_multiply_169 (by decide) rfl k) ?_
  refine ST.lift (fun _ _ k => T_ldc2 d_Fi_multiply_171 kJ_Fi_31 k) ?_
  refine ST.lift (fun _ _ k => T_lload d_Fi_multiply_174 rfl k) ?_
  refine ST.lift (fun _ _ k => T_lmul d_Fi_multiply_176 k) (S_anyl fun z29 => ?_)
  refine ST.lift (fun _ _ k => T_lstore (L' := [(59, .long z29), (57, .long z28), (55, .long z27), (53, .long z26), (51, .long z25), (49, .long z24), (47, .long z23), (45, .long z22), (43, .long z21), (41, .long z20), (39, .long z19), (37, .long z18), (35, .long z17), (33, .long z16), (31, .long z15), (29, .long z14), (27, .long z13), (25, .long z12), (23, .long z11), (21, .long z10), (19, .long z9), (17, .long z8), (15, .long z7), (13, .long z6), (11, .long z5), (9, .long z4), (7, .long z3), (5, .long z2), (3, .long z1), (0, .ref to), (1, .ref f), (2, .ref g)]) d_Fi_multiply_177 (by decide) rfl k) ?_
  refine ST.lift (fun _ _ k => T_ldc2 d_Fi_multiply_179 kJ_Fi_33 k) ?_
  refine ST.lift (fun _ _ k => T_lload d_Fi_multiply_182 rfl k) ?_
  refine ST.lift (fun _ _ k => T_lmul d_Fi_multiply_184 k) (S_anyl fun z30 => ?_)
  refine ST.lift (fun _ _ k => T_lstore (L' := [(61, .long z30), (59, .long z29), (57, .long z28), (55, .long z27), (53, .long z26), (51, .long z25), (49, .long z24), (47, .long z23), (45, .long z22), (43, .long z21), (41, .long z20), (39, .long z19), (37, .long z18), (35, .long z17), (33, .long z16), (31, .long z15), (29, .long z14), (27, .long z13), (25, .long z12), (23, .long z11), (21, .long z10), (19, .long z9), (17, .long z8), (15, .long z7), (13, .long z6), (11, .long z5), (9, .long z4), (7, .long z3), (5, .long z2), (3, .long z1), (0, .ref to), (1, .ref f), (2, .ref g)]) d_Fi_multiply_185 (by decide) rfl k) ?_
  refine ST.lift (fun _ _ k => T_ldc2 d_Fi_multiply_187 kJ_Fi_33 k) ?_
  refine ST.lift (fun _ _ k => T_lload d_Fi_multiply_190 rfl k) ?_
  refine ST.lift (fun _ _ k => T_lmul d_Fi_multiply_192 k) (S_anyl fun z31 => ?_)
  refine ST.lift (fun _ _ k => T_lstore (L' := [(63, .long z31), (61, .long z30), (59, .long z29), (57, .long z28), (55, .long z27), (53, .long z26), (51, .long z25), (49, .long z24), (47, .long z23), (45, .long z22), (43, .long z21), (41, .long z20), (39, .long z19), (37, .long z18), (35, .long z17), (33, .long z16), (31, .long z15), (29, .long z14), (27, .long z13), (25, .long z12), (23, .long z11), (21, .long z10), (19, .long z9), (17, .long z8), (15, .long z7), (13, .long z6), (11, .long z5), (9, .long z4), (7, .long z3), (5, .long z2), (3, .long z1), (0, .ref to), (1, .ref f), (2, .ref g)]) d_Fi_multiply_193 (by decide) rfl k) ?_
  refine ST.lift (fun _ _ k => T_ldc2 d_Fi_multiply_195 kJ_Fi_33 k) ?_
  refine ST.lift (fun _ _ k => T_lload d_Fi_multiply_198 rfl k) ?_
  refine ST.lift (fun _ _ k => T_lmul d_Fi_multiply_200 k) (S_anyl fun z32 => ?_)
  refine ST.lift (fun _ _ k => T_lstore (L' := [(65, .long z32), (63, .long z31), (61, .long z30), (59, .long z29), (57, .long z28), (55, .long z27), (53, .long z26), (51, .long z25), (49, .long z24), (47, .long z23), (45, .long z22), (43, .long z21), (41, .long z20), (39, .long z19), (37, .long z18), (35, .long z17), (33, .long z16), (31, .long z15), (29, .long z14), (27, .long z13), (25, .long z12), (23, .long z11), (21, .long z10), (19, .long z9), (17, .long z8), (15, .long z7), (13, .long z6), (11, .long z5), (9, .long z4), (7, .long z3), (5, .long z2), (3, .long z1), (0, .ref to), (1, .ref f), (2, .ref g)]) d_Fi_multiply_201 (by decide) rfl k) ?_
  refine ST.lift (fun _ _ k => T_ldc2 d_Fi_multiply_203 kJ_Fi_33 k) ?_
  refine ST.lift (fun _ _ k => T_lload d_Fi_multiply_206 rfl k) ?_
  refine ST.lift (fun _ _ k => T_lmul d_Fi_multiply_208 k) (S_anyl fun z33 => ?_)
  refine ST.lift (fun _ _ k => T_lstore (L' := [(67, .long z33), (65, .long z32), (63, .long z31), (61, .long z30), (59, .long z29), (57, .long z28), (55, .long z27), (53, .long z26), (51, .long z25), (49, .long z24), (47, .long z23), (45, .long z22), (43, .long z21), (41, .long z20), (39, .long z19), (37, .long z18), (35, .long z17), (33, .long z16), (31, .long z15), (29, .long z14), (27, .long z13), (25, .long z12), (23, .long z11), (21, .long z10), (19, .long z9), (17, .long z8), (15, .long z7), (13, .long z6), (11, .long z5), (9, .long z4), (7, .long z3), (5, .long z2), (3, .long z1), (0, .ref to), (1, .ref f), (2, .ref g)]) d_Fi_multiply_209 (by decide) rfl k) ?_
  refine ST.lift (fun _ _ k => T_ldc2 d_Fi_multiply_211 kJ_Fi_33 k) ?_
  refine ST.lift (fun _ _ k => T_lload d_Fi_multiply_214 rfl k) ?_
  refine ST.lift (fun _ _ k => T_lmul d_Fi_multiply_216 k) (S_anyl fun z34 => ?_)
  refine ST.lift (fun _ _ k => T_lstore (L' := [(69, .long z34), (67, .long z33), (65, .long z32), (63, .long z31), (61, .long z30), (59, .long z29), (57, .long z28), (55, .long z27), (53, .long z26), (51, .long z25), (49, .long z24), (47, .long z23), (45, .long z22), (43, .long z21), (41, .long z20), (39, .long z19), (37, .long z18), (35, .long z17), (33, .long z16), (31, .long z15), (29, .long z14), (27, .long z13), (25, .long z12), (23, .long z11), (21, .long z10), (19, .long z9), (17, .long z8), (15, .long z7), (13, .long z6), (11, .long z5), (9, .long z4), (7, .long z3), (5, .long z2), (3, .long z1), (0, .ref to), (1, .ref f), (2, .ref g)]) d_Fi_multiply_217 (by decide) rfl k) ?_
  refine ST.lift (fun _ _ k => T_lload_n d_Fi_multiply_219 rfl k) ?_
  refine ST.lift (fun _ _ k => T_lload d_Fi_multiply_220 rfl k) ?_
  refine ST.lift (fun _ _ k => T_lmul d_Fi_multiply_222 k) (S_anyl fun z35 => ?_)
  refine ST.lift (fun _ _ k => T_lload d_Fi_multiply_223 rfl k) ?_
  refine ST.lift (fun _ _ k => T_lload d_Fi_multiply_225 rfl k) ?_
  refine ST.lift (fun _ _ k => T_lmul d_Fi_multiply_227 k) (S_anyl fun z36 => ?_)
  refine ST.lift (fun _ _ k => T_ladd d_Fi_multiply_228 k) (S_anyl fun z37 => ?_)
  refine ST.lift (fun _ _ k => T_lload d_Fi_multiply_229 rfl k) ?_
  refine ST.lift (fun _ _ k => T_lload d_Fi_multiply_231 rfl k) ?_
  refine ST.lift (fun _ _ k => T_lmul d_Fi_multiply_233 k) (S_anyl fun z38 => ?_)
  refine ST.lift (fun _ _ k => T_ladd d_Fi_multiply_234 k) (S_anyl fun z39 => ?_)
  refine ST.lift (fun _ _ k => T_lload d_Fi_multiply_235 rfl k) ?_
  refine ST.lift (fun _ _ k => T_lload d_Fi_multiply_237 rfl k) ?_
  refine ST.lift (fun _ _ k => T_lmul d_Fi_multiply_239 k) (S_anyl fun z40 => ?_)
  refine ST.lift (fun _ _ k => T_ladd d_Fi_multiply_240 k) (S_anyl fun z41 => ?_)
  refine ST.lift (fun _ _ k => T_lload d_Fi_multiply_241 rfl k) ?_
  refine ST.lift (fun _ _ k => T_lload d_Fi_multiply_243 rfl k) ?_
  refine ST.lift (fun _ _ k => T_lmul d_Fi_multiply_245 k) (S_anyl fun z42 => ?_)
  refine ST.lift (fun _ _ k => T_ladd d_Fi_multiply_246 k) (S_anyl fun z43 => ?_)
  refine ST.lift (fun _ _ k => T_lload d_Fi_multiply_247 rfl k) ?_
  refine ST.lift (fun _ _ k => T_lload d_Fi_multiply_249 rfl k) ?_
  refine ST.lift (fun _ _ k => T_lmul d_Fi_multiply_251 k) (S_anyl fun z44 => ?_)
  refine ST.lift (fun _ _ k => T_ladd d_Fi_multiply_252 k) (S_anyl fun z45 => ?_)
  refine ST.lift (fun _ _ k => T_lload d_Fi_multiply_253 rfl k) ?_
  refine ST.lift (fun _ _ k => T_lload d_Fi_multiply_255 rfl k) ?_
  refine ST.lift (fun _ _ k => T_lmul d_Fi_multiply_257 k) (S_anyl fun z46 => ?_)
  refine ST.lift (fun _ _ k => T_ladd d_Fi_multiply_258 k) (S_anyl fun z47 => ?_)
  refine ST.lift (fun _ _ k => T_lload d_Fi_multiply_259 rfl k) ?_
  refine ST.lift (fun _ _ k => T_lload d_Fi_multiply_261 rfl k) ?_
  refine ST.lift (fun _ _ k => T_lmul d_Fi_multiply_263 k) (S_anyl fun z48 => ?_)
  refine ST.lift (fun _ _ k => T_ladd d_Fi_multiply_264 k) (S_anyl fun z49 => ?_)
  refine ST.lift (fun _ _ k => T_lload d_Fi_multiply_265 rfl k) ?_
  refine ST.lift (fun _ _ k => T_lload d_Fi_multiply_267 rfl k) ?_
  refine ST.lift (fun _ _ k => T_lmul d_Fi_multiply_269 k) (S_anyl fun z50 => ?_)
  refine ST.lift (fun _ _ k => T_ladd d_Fi_multiply_270 k) (S_anyl fun z51 => ?_)
  refine ST.lift (fun _ _ k => T_lload d_Fi_multiply_271 rfl k) ?_
  refine ST.lift (fun _ _ k => T_lload d_Fi_multiply_273 rfl k) ?_
  refine ST.lift (fun _ _ k => T_lmul d_Fi_multiply_275 k) (S_anyl fun z52 => ?_)
  refine ST.lift (fun _ _ k => T_ladd d_Fi_multiply_276 k) (S_anyl fun z53 => ?_)
  refine ST.lift (fun _ _ k => T_lstore (L' := [(71, .long z53), (69, .long z34), (67, .long z33), (65, .long z32), (63, .long z31), (61, .long z30), (59, .long z29), (57, .long z28), (55, .long z27), (53, .long z26), (51, .long z25), (49, .long z24), (47, .long z23), (45, .long z22), (43, .long z21), (41, .long z20), (39, .long z19), (37, .long z18), (35, .long z17), (33, .long z16), (31, .long z15), (29, .long z14), (27, .long z13), (25, .long z12), (23, .long z11), (21, .long z10), (19, .long z9), (17, .long z8), (15, .long z7), (13, .long z6), (11, .long z5), (9, .long z4), (7, .long z3), (5, .long z2), (3, .long z1), (0, .ref to), (1, .ref f), (2, .ref g)]) d_Fi_multiply_277 (by decide) rfl k) ?_
  refine ST.lift (fun _ _ k => T_lload d_Fi_multiply_279 rfl k) ?_
  refine ST.lift (fun _ _ k => T_ldc2 d_Fi_multiply_281 kJ_Fi_35 k) ?_
  refine ST.lift (fun _ _ k => T_land d_Fi_multiply_284 k) (S_anyl fun z54 => ?_)
  refine ST.lift (fun _ _ k => T_lstore (L' := [(73, .long z54), (71, .long z53), (69, .long z34), (67, .long z33), (65, .long z32), (63, .long z31), (61, .long z30), (59, .long z29), (57, .long z28), (55, .long z27), (53, .long z26), (51, .long z25), (49, .long z24), (47, .long z23), (45, .long z22), (43, .long z21), (41, .long z20), (39, .long z19), (37, .long z18), (35, .long z17), (33, .long z16), (31, .long z15), (29, .long z14), (27, .long z13), (25, .long z12), (23, .long z11), (21, .long z10), (19, .long z9), (17, .long z8), (15, .long z7), (13, .long z6), (11, .long z5), (9, .long z4), (7, .long z3), (5, .long z2), (3, .long z1), (0, .ref to), (1, .ref f), (2, .ref g)]) d_Fi_multiply_285 (by decide) rfl k) ?_
  refine ST.lift (fun _ _ k => T_lload d_Fi_multiply_287 rfl k) ?_
  refine ST.lift (fun _ _ k => T_bipush (v := nI 26) d_Fi_multiply_289 (by decide) k) ?_
  refine ST.lift (fun _ _ k => T_lshr d_Fi_multiply_291 k) (S_anyl fun z55 => ?_)
  refine ST.lift (fun _ _ k => T_lload_n d_Fi_multiply_292 rfl k) ?_
  refine ST.lift (fun _ _ k => T_lload d_Fi_multiply_293 rfl k) ?_
  refine ST.lift (fun _ _ k => T_lmul d_Fi_multiply_295 k) (S_anyl fun z56 => ?_)
  refine ST.lift (fun _ _ k => T_ladd d_Fi_multiply_296 k) (S_anyl fun z57 => ?_)
  refine ST.lift (fun _ _ k => T_lload d_Fi_multiply_297 rfl k) ?_
  refine ST.lift (fun _ _ k => T_lload d_Fi_multiply_299 rfl k) ?_
  refine ST.lift (fun _ _ k => T_lmul d_Fi_multiply_301 k) (S_anyl fun z58 => ?_)
  refine ST.lift (fun _ _ k => T_ladd d_Fi_multiply_302 k) (S_anyl fun z59 => ?_)
  refine ST.lift (fun _ _ k => T_lload d_Fi_multiply_303 rfl k) ?_
  refine ST.lift (fun _ _ k => T_lload d_Fi_multiply_305 rfl k) ?_
  refine ST.lift (fun _ _ k => T_lmul d_Fi_multiply_307 k) (S_anyl fun z60 => ?_)
  refine ST.lift (fun _ _ k => T_ladd d_Fi_multiply_308 k) (S_anyl fun z61 => ?_)
  refine ST.lift (fun _ _ k => T_lload d_Fi_multiply_309 rfl k) ?_
  refine ST.lift (fun _ _ k => T_lload d_Fi_multiply_311 rfl k) ?_
  refine ST.lift (fun _ _ k => T_lmul d_Fi_multiply_313 k) (S_anyl fun z62 => ?_)
  refine ST.lift (fun _ _ k => T_ladd d_Fi_multiply_314 k) (S_anyl fun z63 => ?_)
  refine ST.lift (fun _ _ k => T_lload d_Fi_multiply_315 rfl k) ?_
  refine ST.lift (fun _ _ k => T_lload d_Fi_multiply_317 rfl k) ?_
  refine ST.lift (fun _ _ k => T_lmul d_Fi_multiply_319 k) (S_anyl fun z64 => ?_)
  refine ST.lift (fun _ _ k => T_ladd d_Fi_multiply_320 k) (S_anyl fun z65 => ?_)
  refine ST.lift (fun _ _ k => T_lload d_Fi_multiply_321 rfl k) ?_
  refine ST.lift (fun _ _ k => T_lload d_Fi_multiply_323 rfl k) ?_
  refine ST.lift (fun _ _ k => T_lmul d_Fi_multiply_325 k) (S_anyl fun z66 => ?_)
  refine ST.lift (fun _ _ k => T_ladd d_Fi_multiply_326 k) (S_anyl fun z67 => ?_)
  refine ST.lift (fun _ _ k => T_lload d_Fi_multiply_327 rfl k) ?_
  refine ST.lift (fun _ _ k => T_lload d_Fi_multiply_329 rfl k) ?_
  refine ST.lift (fun _ _ k => T_lmul d_Fi_multiply_331 k) (S_anyl fun z68 => ?_)
  refine ST.lift (fun _ _ k => T_ladd d_Fi_multiply_332 k) (S_anyl fun z69 => ?_)
  refine ST.lift (fun _ _ k => T_lload d_Fi_multiply_333 rfl k) ?_
  refine ST.lift (fun _ _ k => T_lload d_Fi_multiply_335 rfl k) ?_
  refine ST.lift (fun _ _ k => T_lmul d_Fi_multiply_337 k) (S_anyl fun z70 => ?_)
  refine ST.lift (fun _ _ k => T_ladd d_Fi_multiply_338 k) (S_anyl fun z71 => ?_)
  refine ST.lift (fun _ _ k => T_lload d_Fi_multiply_339 rfl k) ?_
  refine ST.lift (fun _ _ k => T_lload d_Fi_multiply_341 rfl k) ?_
  refine ST.lift (fun _ _ k => T_lmul d_Fi_multiply_343 k) (S_anyl fun z72 => ?_)
  refine ST.lift (fun _ _ k => T_ladd d_Fi_multiply_344 k) (S_anyl fun z73 => ?_)
  refine ST.lift (fun _ _ k => T_lload d_Fi_multiply_345 rfl k) ?_
  refine ST.lift (fun _ _ k => T_lload d_Fi_multiply_347 rfl k) ?_
  refine ST.lift (fun _ _ k => T_lmul d_Fi_multiply_349 k) (S_anyl fun z74 => ?_)
  refine ST.lift (fun _ _ k => T_ladd d_Fi_multiply_350 k) (S_anyl fun z75 => ?_)
  refine ST.lift (fun _ _ k => T_lstore (L' := [(71, .long z75), (73, .long z54), (69, .long z34), (67, .long z33), (65, .long z32), (63, .long z31), (61, .long z30), (59, .long z29), (57, .long z28), (55, .long z27), (53, .long z26), (51, .long z25), (49, .long z24), (47, .long z23), (45, .long z22), (43, .long z21), (41, .long z20), (39, .long z19), (37, .long z18), (35, .long z17), (33, .long z16), (31, .long z15), (29, .long z14), (27, .long z13), (25, .long z12), (23, .long z11), (21, .long z10), (19, .long z9), (17, .long z8), (15, .long z7), (13, .long z6), (11, .long z5), (9, .long z4), (7, .long z3), (5, .long z2), (3, .long z1), (0, .ref to), (1, .ref f), (2, .ref g)]) d_Fi_multiply_351 (by decide) rfl k) ?_
  refine ST.lift (fun _ _ k => T_lload d_Fi_multiply_353 rfl k) ?_
  refine ST.lift (fun _ _ k => T_ldc2 d_Fi_multiply_355 kJ_Fi_37 k) ?_
  refine ST.lift (fun _ _ k => T_land d_Fi_multiply_358 k) (S_anyl fun z76 => ?_)
  refine ST.lift (fun _ _ k => T_lstore (L' := [(75, .long z76), (71, .long z75), (73, .long z54), (69, .long z34), (67, .long z33), (65, .long z32), (63, .long z31), (61, .long z30), (59, .long z29), (57, .long z28), (55, .long z27), (53, .long z26), (51, .long z25), (49, .long z24), (47, .long z23), (45, .long z22), (43, .long z21), (41, .long z20), (39, .long z19), (37, .long z18), (35, .long z17), (33, .long z16), (31, .long z15), (29, .long z14), (27, .long z13), (25, .long z12), (23, .long z11), (21, .long z10), (19, .long z9), (17, .long z8), (15, .long z7), (13, .long z6), (11, .long z5), (9, .long z4), (7, .long z3), (5, .long z2), (3, .long z1), (0, .ref to), (1, .ref f), (2, .ref g)]) d_Fi_multiply_359 (by decide) rfl k) ?_
  refine ST.lift (fun _ _ k => T_lload d_Fi_multiply_361 rfl k) ?_
  refine ST.lift (fun _ _ k => T_bipush (v := nI 25) d_Fi_multiply_363 (by decide) k) ?_
  refine ST.lift (fun _ _ k => T_lshr d_Fi_multiply_365 k) (S_anyl fun z77 => ?_)
  refine ST.lift (fun _ _ k => T_lload_n d_Fi_multiply_366 rfl k) ?_
  refine ST.lift (fun _ _ k => T_lload d_Fi_multiply_367 rfl k) ?_
  refine ST.lift (fun _ _ k => T_lmul d_Fi_multiply_369 k) (S_anyl fun z78 => ?_)
  refine ST.lift (fun _ _ k => T_ladd d_Fi_multiply_370 k) (S_anyl fun z79 => ?_)
  refine ST.lift (fun _ _ k => T_lload d_Fi_multiply_371 rfl k) ?_
  refine ST.lift (fun _ _ k => T_lload d_Fi_multiply_373 rfl k) ?_
  refine ST.lift (fun _ _ k => T_lmul d_Fi_multiply_375 k) (S_anyl fun z80 => ?_)
  refine ST.lift (fun _ _ k => T_ladd d_Fi_multiply_376 k) (S_anyl fun z81 => ?_)
  refine ST.lift (fun _ _ k => T_lload d_Fi_multiply_377 rfl k) ?_
  refine ST.lift (fun _ _ k => T_lload d_Fi_multiply_379 rfl k) ?_
  refine ST.lift (fun _ _ k => T_lmul d_Fi_multiply_381 k) (S_anyl fun z82 => ?_)
  refine ST.lift (fun _ _ k => T_ladd d_Fi_multiply_382 k) (S_anyl fun z83 => ?_)
  refine ST.lift (fun _ _ k => T_lload d_Fi_multiply_383 rfl k) ?_
  refine ST.lift (fun _ _ k => T_lload d_Fi_multiply_385 rfl k) ?_
  refine ST.lift (fun _ _ k => T_lmul d_Fi_multiply_387 k) (S_anyl fun z84 => ?_)
  refine ST.lift (fun _ _ k => T_ladd d_Fi_multiply_388 k) (S_anyl fun z85 => ?_)
  refine ST.lift (fun _ _ k => T_lload d_Fi_multiply_389 rfl k) ?_
  refine ST.lift (fun _ _ k => T_lload d_Fi_multiply_391 rfl k) ?_
  refine ST.lift (fun _ _ k => T_lmul d_Fi_multiply_393 k) (S_anyl fun z86 => ?_)
  refine ST.lift (fun _ _ k => T_ladd d_Fi_multiply_394 k) (S_anyl fun z87 => ?_)
  refine ST.lift (fun _ _ k => T_lload d_Fi_multiply_395 rfl k) ?_
  refine ST.lift (fun _ _ k => T_lload d_Fi_multiply_397 rfl k) ?_
  refine ST.lift (fun _ _ k => T_lmul d_Fi_multiply_399 k) (S_anyl fun z88 => ?_)
  refine ST.lift (fun _ _ k => T_ladd d_Fi_multiply_400 k) (S_anyl fun z89 => ?_)
  refine ST.lift (fun _ _ k => T_lload d_Fi_multiply_401 rfl k) ?_
  refine ST.lift (fun _ _ k => T_lload d_Fi_multiply_403 rfl k) ?_
  refine ST.lift (fun _ _ k => T_lmul d_Fi_multiply_405 k) (S_anyl fun z90 => ?_)
  refine ST.lift (fun _ _ k => T_ladd d_Fi_multiply_406 k) (S_anyl fun z91 => ?_)
  refine ST.lift (fun _ _ k => T_lload d_Fi_multiply_407 rfl k) ?_
  refine ST.lift (fun _ _ k => T_lload d_Fi_multiply_409 rfl k) ?_
  refine ST.lift (fun _ _ k => T_lmul d_Fi_multiply_411 k) (S_anyl fun z92 => ?_)
  refine ST.lift (fun _ _ k => T_ladd d_Fi_multiply_412 k) (S_anyl fun z93 => ?_)
  refine ST.lift (fun _ _ k => T_lload d_Fi_multiply_413 rfl k) ?_
  refine ST.lift (fun _ _ k => T_lload d_Fi_multiply_415 rfl k) ?_
  refine ST.lift (fun _ _ k => T_lmul d_Fi_multiply_417 k) (S_anyl fun z94 => ?_)
  refine ST.lift (fun _ _ k => T_ladd d_Fi_multiply_418 k) (S_anyl fun z95 => ?_)
  refine ST.lift (fun _ _ k => T_lload d_Fi_multiply_419 rfl k) ?_
  refine ST.lift (fun _ _ k => T_lload d_Fi_multiply_421 rfl k) ?_
  refine ST.lift (fun _ _ k => T_lmul d_Fi_multiply_423 k) (S_anyl fun z96 => ?_)
  refine ST.lift (fun _ _ k => T_ladd d_Fi_multiply_424 k) (S_anyl fun z97 => ?_)
  refine ST.lift (fun _ _ k => T_lstore (L' := [(71, .long z97), (75, .long z76), (73, .long z54), (69, .long z34), (67, .long z33), (65, .long z32), (63, .long z31), (61, .long z30), (59, .long z29), (57, .long z28), (55, .long z27), (53, .long z26), (51, .long z25), (49, .long z24), (47, .long z23), (45, .long z22), (43, .long z21), (41, .long z20), (39, .long z19), (37, .long z18), (35, .long z17), (33, .long z16), (31, .long z15), (29, .long z14), (27, .long z13), (25, .long z12), (23, .long z11), (21, .long z10), (19, .long z9), (17, .long z8), (15, .long z7), (13, .long z6), (11, .long z5), (9, .long z4), (7, .long z3), (5, .long z2), (3, .long z1), (0, .ref to), (1, .ref f), (2, .ref g)]) d_Fi_multiply_425 (by decide) rfl k) ?_
  refine ST.lift (fun _ _ k => T_aload_n (v := .ref to) d_Fi_multiply_427 rfl (Or.inr ⟨_, rfl⟩) k) ?_
  refine ST.lift (fun _ _ k => T_iconst (v := nI 2) d_Fi_multiply_428 (by decide) k) ?_
  refine ST.lift (fun _ _ k => T_lload d_Fi_multiply_429 rfl k) ?_
  refine ST.lift (fun _ _ k => T_ldc2 d_Fi_multiply_431 kJ_Fi_35 k) ?_
  refine ST.lift (fun _ _ k => T_land d_Fi_multiply_434 k) (S_anyl fun z98 => ?_)
  refine S_lastore d_Fi_multiply_435 w_to a_to (vp_in_nI (by omega) (by omega)) ?_
  refine ST.lift (fun _ _ k => T_lload d_Fi_multiply_436 rfl k) ?_
  refine ST.lift (fun _ _ k => T_bipush (v := nI 26) d_Fi_multiply_438 (by decide) k) ?_
  refine ST.lift (fun _ _ k => T_lshr d_Fi_multiply_440 k) (S_anyl fun z99 => ?_)
  refine ST.lift (fun _ _ k => T_lload_n d_Fi_multiply_441 rfl k) ?_
  refine ST.lift (fun _ _ k => T_lload d_Fi_multiply_442 rfl k) ?_
  refine ST.lift (fun _ _ k => T_lmul d_Fi_multiply_444 k) (S_anyl fun z100 => ?_)
  refine ST.lift (fun _ _ k => T_ladd d_Fi_multiply_445 k) (S_anyl fun z101 => ?_)
  refine ST.lift (fun _ _ k => T_lload d_Fi_multiply_446 rfl k) ?_
  refine ST.lift (fun _ _ k => T_lload d_Fi_multiply_448 rfl k) ?_
  refine ST.lift (fun _ _ k => T_lmul d_Fi_multiply_450 k) (S_anyl fun z102 => ?_)
  refine ST.lift (fun _ _ k => T_ladd d_Fi_multiply_451 k) (S_anyl fun z103 => ?_)
  refine ST.lift (fun _ _ k => T_lload d_Fi_multiply_452 rfl k) ?_
  refine ST.lift (fun _ _ k => T_lload d_Fi_multiply_454 rfl k) ?_
  refine ST.lift (fun _ _ k => T_lmul d_Fi_multiply_456 k) (S_anyl fun z104 => ?_)
  refine ST.lift (fun _ _ k => T_ladd d_Fi_multiply_457 k) (S_anyl fun z105 => ?_)
  refine ST.lift (fun _ _ k => T_lload d_Fi_multiply_458 rfl k) ?_
  refine ST.lift (fun _ _ k => T_lload d_Fi_multiply_460 rfl k) ?_
  refine ST.lift (fun _ _ k => T_lmul d_Fi_multiply_462 k) (S_anyl fun z106 => ?_)
  refine ST.lift (fun _ _ k => T_ladd d_Fi_multiply_463 k) (S_anyl fun z107 => ?_)
  refine ST.lift (fun _ _ k => T_lload d_Fi_multiply_464 rfl k) ?_
  refine ST.lift (fun _ _ k => T_lload d_Fi_multiply_466 rfl k) ?_
  refine ST.lift (fun _ _ k => T_lmul d_Fi_multiply_468 k) (S_anyl fun z108 => ?_)
  refine ST.lift (fun _ _ k => T_ladd d_Fi_multiply_469 k) (S_anyl fun z109 => ?_)
  refine ST.lift (fun _ _ k => T_lload d_Fi_multiply_470 rfl k) ?_
  refine ST.lift (fun _ _ k => T_lload d_Fi_multiply_472 rfl k) ?_
  refine ST.lift (fun _ _ k => T_lmul d_Fi_multiply_474 k) (S_anyl fun z110 => ?_)
  refine ST.lift (fun _ _ k => T_ladd d_Fi_multiply_475 k) (S_anyl fun z111 => ?_)
  refine ST.lift (fun _ _ k => T_lload d_Fi_multiply_476 rfl k) ?_
  refine ST.lift (fun _ _ k => T_lload d_Fi_multiply_478 rfl k) ?_
  refine ST.lift (fun _ _ k => T_lmul d_Fi_multiply_480 k) (S_anyl fun z112 => ?_)
  refine ST.lift (fun _ _ k => T_ladd d_Fi_multiply_481 k) (S_anyl fun z113 => ?_)
  refine ST.lift (fun _ _ k => T_lload d_Fi_multiply_482 rfl k) ?_
  refine ST.lift (fun _ _ k => T_lload d_Fi_multiply_484 rfl k) ?_
  refine ST.lift (fun _ _ k => T_lmul d_Fi_multiply_486 k) (S_anyl fun z114 => ?_)
  refine ST.lift (fun _ _ k => T_ladd d_Fi_multiply_487 k) (S_anyl fun z115 => ?_)
  refine ST.lift (fun _ _ k => T_lload d_Fi_multiply_488 rfl k) ?_
  refine ST.lift (fun _ _ k => T_lload d_Fi_multiply_490 rfl k) ?_
  refine ST.lift (fun _ _ k => T_lmul d_Fi_multiply_492 k) (S_anyl fun z116 => ?_)
  refine ST.lift (fun _ _ k => T_ladd d_Fi_multiply_493 k) (S_anyl fun z117 => ?_)
  refine ST.lift (fun _ _ k => T_lload d_Fi_multiply_494 rfl k) ?_
  refine ST.lift (fun _ _ k => T_lload d_Fi_multiply_496 rfl k) ?_
  refine ST.lift (fun _ _ k => T_lmul d_Fi_multiply_498 k) (S_anyl fun z118 => ?_)
  refine ST.lift (fun _ _ k => T_ladd d_Fi_multiply_499 k) (S_anyl fun z119 => ?_)
  refine ST.lift (fun _ _ k => T_lstore (L' := [(71, .long z119), (75, .long z76), (73, .long z54), (69, .long z34), (67, .long z33), (65, .long z32), (63, .long z31), (61, .long z30), (59, .long z29), (57, .long z28), (55, .long z27), (53, .long z26), (51, .long z25), (49, .long z24), (47, .long z23), (45, .long z22), (43, .long z21), (41, .long z20), (39, .long z19), (37, .long z18), (35, .long z17), (33, .long z16), (31, .long z15), (29, .long z14), (27, .long z13), (25, .long z12), (23, .long z11), (21, .long z10), (19, .long z9), (17, .long z8), (15, .long z7), (13, .long z6), (11, .long z5), (9, .long z4), (7, .long z3), (5, .long z2), (3, .long z1), (0, .ref to), (1, .ref f), (2, .ref g)]) d_Fi_multiply_500 (by decide) rfl k) ?_
  refine ST.lift (fun _ _ k => T_aload_n (v := .ref to) d_Fi_multiply_502 rfl (Or.inr ⟨_, rfl⟩) k) ?_
  refine ST.lift (fun _ _ k => T_iconst (v := nI 3) d_Fi_multiply_503 (by decide) k) ?_
  refine ST.lift (fun _ _ k => T_lload d_Fi_multiply_504 rfl k) ?_
  refine ST.lift (fun _ _ k => T_ldc2 d_Fi_multiply_506 kJ_Fi_37 k) ?_
  refine ST.lift (fun _ _ k => T_land d_Fi_multiply_509 k) (S_anyl fun z120 => ?_)
  refine S_lastore d_Fi_multiply_510 w_to a_to (vp_in_nI (by omega) (by omega)) ?_
  refine ST.lift (fun _ _ k => T_lload d_Fi_multiply_511 rfl k) ?_
  refine ST.lift (fun _ _ k => T_bipush (v := nI 25) d_Fi_multiply_513 (by decide) k) ?_
  refine ST.lift (fun _ _ k => T_lshr d_Fi_multiply_515 k) (S_anyl fun z121 => ?_)
  refine ST.lift (fun _ _ k => T_lload_n d_Fi_multiply_516 rfl k) ?_
  refine ST.lift (fun _ _ k => T_lload d_Fi_multiply_517 rfl k) ?_
  refine ST.lift (fun _ _ k => T_lmul d_Fi_multiply_519 k) (S_anyl fun z122 => ?_)
  refine ST.lift (fun _ _ k => T_ladd d_Fi_multiply_520 k) (S_anyl fun z123 => ?_)
  refine ST.lift (fun _ _ k => T_lload d_Fi_multiply_521 rfl k) ?_
  refine ST.lift (fun _ _ k => T_lload d_Fi_multiply_523 rfl k) ?_
  refine ST.lift (fun _ _ k => T_lmul d_Fi_multiply_525 k) (S_anyl fun z124 => ?_)
  refine ST.lift (fun _ _ k => T_ladd d_Fi_multiply_526 k) (S_anyl fun z125 => ?_)
  refine ST.lift (fun _ _ k => T_lload d_Fi_multiply_527 rfl k) ?_
  refine ST.lift (fun _ _ k => T_lload d_Fi_multiply_529 rfl k) ?_
  refine ST.lift (fun _ _ k => T_lmul d_Fi_multiply_531 k) (S_anyl fun z126 => ?_)
  refine ST.lift (fun _ _ k => T_ladd d_Fi_multiply_532 k) (S_anyl fun z127 => ?_)
  refine ST.lift (fun _ _ k => T_lload d_Fi_multiply_533 rfl k) ?_
  refine ST.lift (fun _ _ k => T_lload d_Fi_multiply_535 rfl k) ?_
  refine ST.lift (fun _ _ k => T_lmul d_Fi_multiply_537 k) (S_anyl fun z128 => ?_)
  refine ST.lift (fun _ _ k => T_ladd d_Fi_multiply_538 k) (S_anyl fun z129 => ?_)
  refine ST.lift (fun _ _ k => T_lload d_Fi_multiply_539 rfl k) ?_
  refine ST.lift (fun _ _ k => T_lload d_Fi_multiply_541 rfl k) ?_
  refine ST.lift (fun _ _ k => T_lmul d_Fi_multiply_543 k) (S_anyl fun z130 => ?_)
  refine ST.lift (fun _ _ k => T_ladd d_Fi_multiply_544 k) (S_anyl fun z131 => ?_)
  refine ST.lift (fun _ _ k => T_lload d_Fi_multiply_545 rfl k) ?_
  refine ST.lift (fun _ _ k => T_lload d_Fi_multiply_547 rfl k) ?_
  refine ST.lift (fun _ _ k => T_lmul d_Fi_multiply_549 k) (S_anyl fun z132 => ?_)
  refine ST.lift (fun _ _ k => T_ladd d_Fi_multiply_550 k) (S_anyl fun z133 => ?_)
  refine ST.lift (fun _ _ k => T_lload d_Fi_multiply_551 rfl k) ?_
  refine ST.lift (fun _ _ k => T_lload d_Fi_multiply_553 rfl k) ?_
  refine ST.lift (fun _ _ k => T_lmul d_Fi_multiply_555 k) (S_anyl fun z134 => ?_)
  refine ST.lift (fun _ _ k => T_ladd d_Fi_multiply_556 k) (S_anyl fun z135 => ?_)
  refine ST.lift (fun _ _ k => T_lload d_Fi_multiply_557 rfl k) ?_
  refine ST.lift (fun _ _ k => T_lload d_Fi_multiply_559 rfl k) ?_
  refine ST.lift (fun _ _ k => T_lmul d_Fi_multiply_561 k) (S_anyl fun z136 => ?_)
  refine ST.lift (fun _ _ k => T_ladd d_Fi_multiply_562 k) (S_anyl fun z137 => ?_)
  refine ST.lift (fun _ _ k => T_lload d_Fi_multiply_563 rfl k) ?_
  refine ST.lift (fun _ _ k => T_lload d_Fi_multiply_565 rfl k) ?_
  refine ST.lift (fun _ _ k => T_lmul d_Fi_multiply_567 k) (S_anyl fun z138 => ?_)
  refine ST.lift (fun _ _ k => T_ladd d_Fi_multiply_568 k) (S_anyl fun z139 => ?_)
  refine ST.lift (fun _ _ k => T_lload d_Fi_multiply_569 rfl k) ?_
  refine ST.lift (fun _ _ k => T_lload d_Fi_multiply_571 rfl k) ?_
  refine ST.lift (fun _ _ k => T_lmul d_Fi_multiply_573 k) (S_anyl fun z140 => ?_)
  refine ST.lift (fun _ _ k => T_ladd d_Fi_multiply_574 k) (S_anyl fun z141 => ?_)
  refine ST.lift (fun _ _ k => T_lstore (L' := [(71, .long z141), (75, .long z76), (73, .long z54), (69, .long z34), (67, .long z33), (65, .long z32), (63, .long z31), (61, .long z30), (59, .long z29), (57, .long z28), (55, .long z27), (53, .long z26), (51, .long z25), (49, .long z24), (47, .long z23), (45, .long z22), (43, .long z21), (41, .long z20), (39, .long z19), (37, .long z18), (35, .long z17), (33, .long z16), (31, .long z15), (29, .long z14), (27, .long z13), (25, .long z12), (23, .long z11), (21, .long z10), (19, .long z9), (17, .long z8), (15, .long z7), (13, .long z6), (11, .long z5), (9, .long z4), (7, .long z3), (5, .long z2), (3, .long z1), (0, .ref to), (1, .ref f), (2, .ref g)]) d_Fi_multiply_575 (by decide) rfl k) ?_
  refine ST.lift (fun _ _ k => T_aload_n (v := .ref to) d_Fi_multiply_577 rfl (Or.inr ⟨_, rfl⟩) k) ?_
  refine ST.lift (fun _ _ k => T_iconst (v := nI 4) d_Fi_multiply_578 (by decide) k) ?_
  refine ST.lift (fun _ _ k => T_lload d_Fi_multiply_579 rfl k) ?_
  refine ST.lift (fun _ _ k => T_ldc2 d_Fi_multiply_581 kJ_Fi_35 k) ?_
  refine ST.lift (fun _ _ k => T_land d_Fi_multiply_584 k) (S_anyl fun z142 => ?_)
  refine S_lastore d_Fi_multiply_585 w_to a_to (vp_in_nI (by omega) (by omega)) ?_
  refine ST.lift (fun _ _ k => T_lload d_Fi_multiply_586 rfl k) ?_
  refine ST.lift (fun _ _ k => T_bipush (v := nI 26) d_Fi_multiply_588 (by decide) k) ?_
  refine ST.lift (fun _ _ k => T_lshr d_Fi_multiply_590 k) (S_anyl fun z143 => ?_)
  refine ST.lift (fun _ _ k => T_lload_n d_Fi_multiply_591 rfl k) ?_
  refine ST.lift (fun _ _ k => T_lload d_Fi_multiply_592 rfl k) ?_
  refine ST.lift (fun _ _ k => T_lmul d_Fi_multiply_594 k) (S_anyl fun z144 => ?_)
  refine ST.lift (fun _ _ k => T_ladd d_Fi_multiply_595 k) (S_anyl fun z145 => ?_)
  refine ST.lift (fun _ _ k => T_lload d_Fi_multiply_596 rfl k) ?_
  refine ST.lift (fun _ _ k => T_lload d_Fi_multiply_598 rfl k) ?_
  refine ST.lift (fun _ _ k => T_lmul d_Fi_multiply_600 k) (S_anyl fun z146 => ?_)
  refine ST.lift (fun _ _ k => T_ladd d_Fi_multiply_601 k) (S_anyl fun z147 => ?_)
  refine ST.lift (fun _ _ k => T_lload d_Fi_multiply_602 rfl k) ?_
  refine ST.lift (fun _ _ k => T_lload d_Fi_multiply_604 rfl k) ?_
  refine ST.lift (fun _ _ k => T_lmul d_Fi_multiply_606 k) (S_anyl fun z148 => ?_)
  refine ST.lift (fun _ _ k => T_ladd d_Fi_multiply_607 k) (S_anyl fun z149 => ?_)
  refine ST.lift (fun _ _ k => T_lload d_Fi_multiply_608 rfl k) ?_
  refine ST.lift (fun _ _ k => T_lload d_Fi_multiply_610 rfl k) ?_
  refine ST.lift (fun _ _ k => T_lmul d_Fi_multiply_612 k) (S_anyl fun z150 => ?_)
  refine ST.lift (fun _ _ k => T_ladd d_Fi_multiply_613 k) (S_anyl fun z151 => ?_)
  refine ST.lift (fun _ _ k => T_lload d_Fi_multiply_614 rfl k) ?_
  refine ST.lift (fun _ _ k => T_lload d_Fi_multiply_616 rfl k) ?_
  refine ST.lift (fun _ _ k => T_lmul d_Fi_multiply_618 k) (S_anyl fun z152 => ?_)
  refine ST.lift (fun _ _ k => T_ladd d_Fi_multiply_619 k) (S_anyl fun z153 => ?_)
  refine ST.lift (fun _ _ k => T_lload d_Fi_multiply_620 rfl k) ?_
  refine ST.lift (fun _ _ k => T_lload d_Fi_multiply_622 rfl k) ?_
  refine ST.lift (fun _ _ k => T_lmul d_Fi_multiply_624 k) (S_anyl fun z154 => ?_)
  refine ST.lift (fun _ _ k => T_ladd d_Fi_multiply_625 k) (S_anyl fun z155 => ?_)
  refine ST.lift (fun _ _ k => T_lload d_Fi_multiply_626 rfl k) ?_
  refine ST.lift (fun _ _ k => T_lload d_Fi_multiply_628 rfl k) ?_
  refine ST.lift (fun _ _ k => T_lmul d_Fi_multiply_630 k) (S_anyl fun z156 => ?_)
  refine ST.lift (fun _ _ k => T_ladd d_Fi_multiply_631 k) (S_anyl fun z157 => ?_)
  refine ST.lift (fun _ _ k => T_lload d_Fi_multiply_632 rfl k) ?_
  refine ST.lift (fun _ _ k => T_lload d_Fi_multiply_634 rfl k) ?_
  refine ST.lift (fun _ _ k => T_lmul d_Fi_multiply_636 k) (S_anyl fun z158 => ?_)
  refine ST.lift (fun _ _ k => T_ladd d_Fi_multiply_637 k) (S_anyl fun z159 => ?_)
  refine ST.lift (fun _ _ k => T_lload d_Fi_multiply_638 rfl k) ?_
  refine ST.lift (fun _ _ k => T_lload d_Fi_multiply_640 rfl k) ?_
  refine ST.lift (fun _ _ k => T_lmul d_Fi_multiply_642 k) (S_anyl fun z160 => ?_)
  refine ST.lift (fun _ _ k => T_ladd d_Fi_multiply_643 k) (S_anyl fun z161 => ?_)
  refine ST.lift (fun _ _ k => T_lload d_Fi_multiply_644 rfl k) ?_
  refine ST.lift (fun _ _ k => T_lload d_Fi_multiply_646 rfl k) ?_
  refine ST.lift (fun _ _ k => T_lmul d_Fi_multiply_648 k) (S_anyl fun z162 => ?_)
  refine ST.lift (fun _ _ k => T_ladd d_Fi_multiply_649 k) (S_anyl fun z163 => ?_)
  refine ST.lift (fun _ _ k => T_lstore (L' := [(71, .long z163), (75, .long z76), (73, .long z54), (69, .long z34), (67, .long z33), (65, .long z32), (63, .long z31), (61, .long z30), (59, .long z29), (57, .long z28), (55, .long z27), (53, .long z26), (51, .long z25), (49, .long z24), (47, .long z23), (45, .long z22), (43, .long z21), (41, .long z20), (39, .long z19), (37, .long z18), (35, .long z17), (33, .long z16), (31, .long z15), (29, .long z14), (27, .long z13), (25, .long z12), (23, .long z11), (21, .long z10), (19, .long z9), (17, .long z8), (15, .long z7), (13, .long z6), (11, .long z5), (9, .long z4), (7, .long z3), (5, .long z2), (3, .long z1), (0, .ref to), (1, .ref f), (2, .ref g)]) d_Fi_multiply_650 (by decide) rfl k) ?_
  refine ST.lift (fun _ _ k => T_aload_n (v := .ref to) d_Fi_multiply_652 rfl (Or.inr ⟨_, rfl⟩) k) ?_
  refine ST.lift (fun _ _ k => T_iconst (v := nI 5) d_Fi_multiply_653 (by decide) k) ?_
  refine ST.lift (fun _ _ k => T_lload d_Fi_multiply_654 rfl k) ?_
  refine ST.lift (fun _ _ k => T_ldc2 d_Fi_multiply_656 kJ_Fi_37 k) ?_
  refine ST.lift (fun _ _ k => T_land d_Fi_multiply_659 k) (S_anyl fun z164 => ?_)
  refine S_lastore d_Fi_multiply_660 w_to a_to (vp_in_nI (by omega) (by omega)) ?_
  refine ST.lift (fun _ _ k => T_lload d_Fi_multiply_661 rfl k) ?_
  refine ST.lift (fun _ _ k => T_bipush (v := nI 25) d_Fi_multiply_663 (by decide) k) ?_
  refine ST.lift (fun _ _ k => T_lshr d_Fi_multiply_665 k) (S_anyl fun z165 => ?_)
  refine ST.lift (fun _ _ k => T_lload_n d_Fi_multiply_666 rfl k) ?_
  refine ST.lift (fun _ _ k => T_lload d_Fi_multiply_667 rfl k) ?_
  refine ST.lift (fun _ _ k => T_lmul d_Fi_multiply_669 k) (S_anyl fun z166 => ?_)
  refine ST.lift (fun _ _ k => T_ladd d_Fi_multiply_670 k) (S_anyl fun z167 => ?_)
  refine ST.lift (fun _ _ k => T_lload d_Fi_multiply_671 rfl k) ?_
  refine ST.lift (fun _ _ k => T_lload d_Fi_multiply_673 rfl k) ?_
  refine ST.lift (fun _ _ k => T_lmul d_Fi_multiply_675 k) (S_anyl fun z168 => ?_)
  refine ST.lift (fun _ _ k => T_ladd d_Fi_multiply_676 k) (S_anyl fun z169 => ?_)
  refine ST.lift (fun _ _ k => T_lload d_Fi_multiply_677 rfl k) ?_
  refine ST.lift (fun _ _ k => T_lload d_Fi_multiply_679 rfl k) ?_
  refine ST.lift (fun _ _ k => T_lmul d_Fi_multiply_681 k) (S_anyl fun z170 => ?_)
  refine ST.lift (fun _ _ k => T_ladd d_Fi_multiply_682 k) (S_anyl fun z171 => ?_)
  refine ST.lift (fun _ _ k => T_lload d_Fi_multiply_683 rfl k) ?_
  refine ST.lift (fun _ _ k => T_lload d_Fi_multiply_685 rfl k) ?_
  refine ST.lift (fun _ _ k => T_lmul d_Fi_multiply_687 k) (S_anyl fun z172 => ?_)
  refine ST.lift (fun _ _ k => T_ladd d_Fi_multiply_688 k) (S_anyl fun z173 => ?_)
  refine ST.lift (fun _ _ k => T_lload d_Fi_multiply_689 rfl k) ?_
  refine ST.lift (fun _ _ k => T_lload d_Fi_multiply_691 rfl k) ?_
  refine ST.lift (fun _ _ k => T_lmul d_Fi_multiply_693 k) (S_anyl fun z174 => ?_)
  refine ST.lift (fun _ _ k => T_ladd d_Fi_multiply_694 k) (S_anyl fun z175 => ?_)
  refine ST.lift (fun _ _ k => T_lload d_Fi_multiply_695 rfl k) ?_
  refine ST.lift (fun _ _ k => T_lload d_Fi_multiply_697 rfl k) ?_
  refine ST.lift (fun _ _ k => T_lmul d_Fi_multiply_699 k) (S_anyl fun z176 => ?_)
  refine ST.lift (fun _ _ k => T_ladd d_Fi_multiply_700 k) (S_anyl fun z177 => ?_)
  refine ST.lift (fun _ _ k => T_lload d_Fi_multiply_701 rfl k) ?_
  refine ST.lift (fun _ _ k => T_lload d_Fi_multiply_703 rfl k) ?_
  refine ST.lift (fun _ _ k => T_lmul d_Fi_multiply_705 k) (S_anyl fun z178 => ?_)
  refine ST.lift (fun _ _ k => T_ladd d_Fi_multiply_706 k) (S_anyl fun z179 => ?_)
  refine ST.lift (fun _ _ k => T_lload d_Fi_multiply_707 rfl k) ?_
  refine ST.lift (fun _ _ k => T_lload d_Fi_multiply_709 rfl k) ?_
  refine ST.lift (fun _ _ k => T_lmul d_Fi_multiply_711 k) (S_anyl fun z180 => ?_)
  refine ST.lift (fun _ _ k => T_ladd d_Fi_multiply_712 k) (S_anyl fun z181 => ?_)
  refine ST.lift (fun _ _ k => T_lload d_Fi_multiply_713 rfl k) ?_
  refine ST.lift (fun _ _ k => T_lload d_Fi_multiply_715 rfl k) ?_
  refine ST.lift (fun _ _ k => T_lmul d_Fi_multiply_717 k) (S_anyl fun z182 => ?_)
  refine ST.lift (fun _ _ k => T_ladd d_Fi_multiply_718 k) (S_anyl fun z183 => ?_)
  refine ST.lift (fun _ _ k => T_lload d_Fi_multiply_719 rfl k) ?_
  refine ST.lift (fun _ _ k => T_lload d_Fi_multiply_721 rfl k) ?_
  refine ST.lift (fun _ _ k => T_lmul d_Fi_multiply_723 k) (S_anyl fun z184 => ?_)
  refine ST.lift (fun _ _ k => T_ladd d_Fi_multiply_724 k) (S_anyl fun z185 => ?_)
  refine ST.lift (fun _ _ k => T_lstore (L' := [(71, .long z185), (75, .long z76), (73, .long z54), (69, .long z34), (67, .long z33), (65, .long z32), (63, .long z31), (61, .long z30), (59, .long z29), (57, .long z28), (55, .long z27), (53, .long z26), (51, .long z25), (49, .long z24), (47, .long z23), (45, .long z22), (43, .long z21), (41, .long z20), (39, .long z19), (37, .long z18), (35, .long z17), (33, .long z16), (31, .long z15), (29, .long z14), (27, .long z13), (25, .long z12), (23, .long z11), (21, .long z10), (19, .long z9), (17, .long z8), (15, .long z7), (13, .long z6), (11, .long z5), (9, .long z4), (7, .long z3), (5, .long z2), (3, .long z1), (0, .ref to), (1, .ref f), (2, .ref g)]) d_Fi_multiply_725 (by decide) rfl k) ?_
  refine ST.lift (fun _ _ k => T_aload_n (v := .ref to) d_Fi_multiply_727 rfl (Or.inr ⟨_, rfl⟩) k) ?_
  refine ST.lift (fun _ _ k => T_bipush (v := nI 6) d_Fi_multiply_728 (by decide) k) ?_
  refine ST.lift (fun _ _ k => T_lload d_Fi_multiply_730 rfl k) ?_
  refine ST.lift (fun _ _ k => T_ldc2 d_Fi_multiply_732 kJ_Fi_35 k) ?_
  refine ST.lift (fun _ _ k => T_land d_Fi_multiply_735 k) (S_anyl fun z186 => ?_)
  refine S_lastore d_Fi_multiply_736 w_to a_to (vp_in_nI (by omega) (by omega)) ?_
  refine ST.lift (fun _ _ k => T_lload d_Fi_multiply_737 rfl k) ?_
  refine ST.lift (fun _ _ k => T_bipush (v := nI 26) d_Fi_multiply_739 (by decide) k) ?_
  refine ST.lift (fun _ _ k => T_lshr d_Fi_multiply_741 k) (S_anyl fun z187 => ?_)
  refine ST.lift (fun _ _ k => T_lload_n d_Fi_multiply_742 rfl k) ?_
  refine ST.lift (fun _ _ k => T_lload d_Fi_multiply_743 rfl k) ?_
  refine ST.lift (fun _ _ k => T_lmul d_Fi_multiply_745 k) (S_anyl fun z188 => ?_)
  refine ST.lift (fun _ _ k => T_ladd d_Fi_multiply_746 k) (S_anyl fun z189 => ?_)
  refine ST.lift (fun _ _ k => T_lload d_Fi_multiply_747 rfl k) ?_
  refine ST.lift (fun _ _ k => T_lload d_Fi_multiply_749 rfl k) ?_
  refine ST.lift (fun _ _ k => T_lmul d_Fi_multiply_751 k) (S_anyl fun z190 => ?_)
  refine ST.lift (fun _ _ k => T_ladd d_Fi_multiply_752 k) (S_anyl fun z191 => ?_)
  refine ST.lift (fun _ _ k => T_lload d_Fi_multiply_753 rfl k) ?_
  refine ST.lift (fun _ _ k => T_lload d_Fi_multiply_755 rfl k) ?_
  refine ST.lift (fun _ _ k => T_lmul d_Fi_multiply_757 k) (S_anyl fun z192 => ?_)
  refine ST.lift (fun _ _ k => T_ladd d_Fi_multiply_758 k) (S_anyl fun z193 => ?_)
  refine ST.lift (fun _ _ k => T_lload d_Fi_multiply_759 rfl k) ?_
  refine ST.lift (fun _ _ k => T_lload d_Fi_multiply_761 rfl k) ?_
  refine ST.lift (fun _ _ k => T_lmul d_Fi_multiply_763 k) (S_anyl fun z194 => ?_)
  refine ST.lift (fun _ _ k => T_ladd d_Fi_multiply_764 k) (S_anyl fun z195 => ?_)
  refine ST.lift (fun _ _ k => T_lload d_Fi_multiply_765 rfl k) ?_
  refine ST.lift (fun _ _ k => T_lload d_Fi_multiply_767 rfl k) ?_
  refine ST.lift (fun _ _ k => T_lmul d_Fi_multiply_769 k) (S_anyl fun z196 => ?_)
  refine ST.lift (fun _ _ k => T_ladd d_Fi_multiply_770 k) (S_anyl fun z197 => ?_)
  refine ST.lift (fun _ _ k => T_lload d_Fi_multiply_771 rfl k) ?_
  refine ST.lift (fun _ _ k => T_lload d_Fi_multiply_773 rfl k) ?_
  refine ST.lift (fun _ _ k => T_lmul d_Fi_multiply_775 k) (S_anyl fun z198 => ?_)
  refine ST.lift (fun _ _ k => T_ladd d_Fi_multiply_776 k) (S_anyl fun z199 => ?_)
  refine ST.lift (fun _ _ k => T_lload d_Fi_multiply_777 rfl k) ?_
  refine ST.lift (fun _ _ k => T_lload d_Fi_multiply_779 rfl k) ?_
  refine ST.lift (fun _ _ k => T_lmul d_Fi_multiply_781 k) (S_anyl fun z200 => ?_)
  refine ST.lift (fun _ _ k => T_ladd d_Fi_multiply_782 k) (S_anyl fun z201 => ?_)
  refine ST.lift (fun _ _ k => T_lload d_Fi_multiply_783 rfl k) ?_
  refine ST.lift (fun _ _ k => T_lload d_Fi_multiply_785 rfl k) ?_
  refine ST.lift (fun _ _ k => T_lmul d_Fi_multiply_787 k) (S_anyl fun z202 => ?_)
  refine ST.lift (fun _ _ k => T_ladd d_Fi_multiply_788 k) (S_anyl fun z203 => ?_)
  refine ST.lift (fun _ _ k => T_lload d_Fi_multiply_789 rfl k) ?_
  refine ST.lift (fun _ _ k => T_lload d_Fi_multiply_791 rfl k) ?_
  refine ST.lift (fun _ _ k => T_lmul d_Fi_multiply_793 k) (S_anyl fun z204 => ?_)
  refine ST.lift (fun _ _ k => T_ladd d_Fi_multiply_794 k) (S_anyl fun z205 => ?_)
  refine ST.lift (fun _ _ k => T_lload d_Fi_multiply_795 rfl k) ?_
  refine ST.lift (fun _ _ k => T_lload d_Fi_multiply_797 rfl k) ?_
  refine ST.lift (fun _ _ k => T_lmul d_Fi_multiply_799 k) (S_anyl fun z206 => ?_)
  refine ST.lift (fun _ _ k => T_ladd d_Fi_multiply_800 k) (S_anyl fun z207 => ?_)
  refine ST.lift (fun _ _ k => T_lstore (L' := [(71, .long z207), (75, .long z76), (73, .long z54), (69, .long z34), (67, .long z33), (65, .long z32), (63, .long z31), (61, .long z30), (59, .long z29), (57, .long z28), (55, .long z27), (53, .long z26), (51, .long z25), (49, .long z24), (47, .long z23), (45, .long z22), (43, .long z21), (41, .long z20), (39, .long z19), (37, .long z18), (35, .long z17), (33, .long z16), (31, .long z15), (29, .long z14), (27, .long z13), (25, .long z12), (23, .long z11), (21, .long z10), (19, .long z9), (17, .long z8), (15, .long z7), (13, .long z6), (11, .long z5), (9, .long z4), (7, .long z3), (5, .long z2), (3, .long z1), (0, .ref to), (1, .ref f), (2, .ref g)]) d_Fi_multiply_801 (by decide) rfl k) ?_
  refine ST.lift (fun _ _ k => T_aload_n (v := .ref to) d_Fi_multiply_803 rfl (Or.inr ⟨_, rfl⟩) k) ?_
  refine ST.lift (fun _ _ k => T_bipush (v := nI 7) d_Fi_multiply_804 (by decide) k) ?_
  refine ST.lift (fun _ _ k => T_lload d_Fi_multiply_806 rfl k) ?_
  refine ST.lift (fun _ _ k => T_ldc2 d_Fi_multiply_808 kJ_Fi_37 k) ?_
  refine ST.lift (fun _ _ k => T_land d_Fi_multiply_811 k) (S_anyl fun z208 => ?_)
  refine S_lastore d_Fi_multiply_812 w_to a_to (vp_in_nI (by omega) (by omega)) ?_
  refine ST.lift (fun _ _ k => T_lload d_Fi_multiply_813 rfl k) ?_
  refine ST.lift (fun _ _ k => T_bipush (v := nI 25) d_Fi_multiply_815 (by decide) k) ?_
  refine ST.lift (fun _ _ k => T_lshr d_Fi_multiply_817 k) (S_anyl fun z209 => ?_)
  refine ST.lift (fun _ _ k => T_lload_n d_Fi_multiply_818 rfl k) ?_
  refine ST.lift (fun _ _ k => T_lload d_Fi_multiply_819 rfl k) ?_
  refine ST.lift (fun _ _ k => T_lmul d_Fi_multiply_821 k) (S_anyl fun z210 => ?_)
  refine ST.lift (fun _ _ k => T_ladd d_Fi_multiply_822 k) (S_anyl fun z211 => ?_)
  refine ST.lift (fun _ _ k => T_lload d_Fi_multiply_823 rfl k) ?_
  refine ST.lift (fun _ _ k => T_lload d_Fi_multiply_825 rfl k) ?_
  refine ST.lift (fun _ _ k => T_lmul d_Fi_multiply_827 k) (S_anyl fun z212 => ?_)
  refine ST.lift (fun _ _ k => T_ladd d_Fi_multiply_828 k) (S_anyl fun z213 => ?_)
  refine ST.lift (fun _ _ k => T_lload d_Fi_multiply_829 rfl k) ?_
  refine ST.lift (fun _ _ k => T_lload d_Fi_multiply_831 rfl k) ?_
  refine ST.lift (fun _ _ k => T_lmul d_Fi_multiply_833 k) (S_anyl fun z214 => ?_)
  refine ST.lift (fun _ _ k => T_ladd d_Fi_multiply_834 k) (S_anyl fun z215 => ?_)
  refine ST.lift (fun _ _ k => T_lload d_Fi_multiply_835 rfl k) ?_
  refine ST.lift (fun _ _ k => T_lload d_Fi_multiply_837 rfl k) ?_
  refine ST.lift (fun _ _ k => T_lmul d_Fi_multiply_839 k) (S_anyl fun z216 => ?_)
  refine ST.lift (fun _ _ k => T_ladd d_Fi_multiply_840 k) (S_anyl fun z217 => ?_)
  refine ST.lift (fun _ _ k => T_lload d_Fi_multiply_841 rfl k) ?_
  refine ST.lift (fun _ _ k => T_lload d_Fi_multiply_843 rfl k) ?_
  refine ST.lift (fun _ _ k => T_lmul d_Fi_multiply_845 k) (S_anyl fun z218 => ?_)
  refine ST.lift (fun _ _ k => T_ladd d_Fi_multiply_846 k) (S_anyl fun z219 => ?_)
  refine ST.lift (fun _ _ k => T_lload d_Fi_multiply_847 rfl k) ?_
  refine ST.lift (fun _ _ k => T_lload d_Fi_multiply_849 rfl k) ?_
  refine ST.lift (fun _ _ k => T_lmul d_Fi_multiply_851 k) (S_anyl fun z220 => ?_)
  refine ST.lift (fun _ _ k => T_ladd d_Fi_multiply_852 k) (S_anyl fun z221 => ?_)
  refine ST.lift (fun _ _ k => T_lload d_Fi_multiply_853 rfl k) ?_
  refine ST.lift (fun _ _ k => T_lload d_Fi_multiply_855 rfl k) ?_
  refine ST.lift (fun _ _ k => T_lmul d_Fi_multiply_857 k) (S_anyl fun z222 => ?_)
  refine ST.lift (fun _ _ k => T_ladd d_Fi_multiply_858 k) (S_anyl fun z223 => ?_)
  refine ST.lift (fun _ _ k => T_lload d_Fi_multiply_859 rfl k) ?_
  refine ST.lift (fun _ _ k => T_lload d_Fi_multiply_861 rfl k) ?_
  refine ST.lift (fun _ _ k => T_lmul d_Fi_multiply_863 k) (S_anyl fun z224 => ?_)
  refine ST.lift (fun _ _ k => T_ladd d_Fi_multiply_864 k) (S_anyl fun z225 => ?_)
  refine ST.lift (fun _ _ k => T_lload d_Fi_multiply_865 rfl k) ?_
  refine ST.lift (fun _ _ k => T_lload d_Fi_multiply_867 rfl k) ?_
  refine ST.lift (fun _ _ k => T_lmul d_Fi_multiply_869 k) (S_anyl fun z226 => ?_)
  refine ST.lift (fun _ _ k => T_ladd d_Fi_multiply_870 k) (S_anyl fun z227 => ?_)
  refine ST.lift (fun _ _ k => T_lload d_Fi_multiply_871 rfl k) ?_
  refine ST.lift (fun _ _ k => T_lload d_Fi_multiply_873 rfl k) ?_
  refine ST.lift (fun _ _ k => T_lmul d_Fi_multiply_875 k) (S_anyl fun z228 => ?_)
  refine ST.lift (fun _ _ k => T_ladd d_Fi_multiply_876 k) (S_anyl fun z229 => ?_)
  refine ST.lift (fun _ _ k => T_lstore (L' := [(71, .long z229), (75, .long z76), (73, .long z54), (69, .long z34), (67, .long z33), (65, .long z32), (63, .long z31), (61, .long z30), (59, .long z29), (57, .long z28), (55, .long z27), (53, .long z26), (51, .long z25), (49, .long z24), (47, .long z23), (45, .long z22), (43, .long z21), (41, .long z20), (39, .long z19), (37, .long z18), (35, .long z17), (33, .long z16), (31, .long z15), (29, .long z14), (27, .long z13), (25, .long z12), (23, .long z11), (21, .long z10), (19, .long z9), (17, .long z8), (15, .long z7), (13, .long z6), (11, .long z5), (9, .long z4), (7, .long z3), (5, .long z2), (3, .long z1), (0, .ref to), (1, .ref f), (2, .ref g)]) d_Fi_multiply_877 (by decide) rfl k) ?_
  refine ST.lift (fun _ _ k => T_aload_n (v := .ref to) d_Fi_multiply_879 rfl (Or.inr ⟨_, rfl⟩) k) ?_
  refine ST.lift (fun _ _ k => T_bipush (v := nI 8) d_Fi_multiply_880 (by decide) k) ?_
  refine ST.lift (fun _ _ k => T_lload d_Fi_multiply_882 rfl k) ?_
  refine ST.lift (fun _ _ k => T_ldc2 d_Fi_multiply_884 kJ_Fi_35 k) ?_
  refine ST.lift (fun _ _ k => T_land d_Fi_multiply_887 k) (S_anyl fun z230 => ?_)
  refine S_lastore d_Fi_multiply_888 w_to a_to (vp_in_nI (by omega) (by omega)) ?_
  refine ST.lift (fun _ _ k => T_lload d_Fi_multiply_889 rfl k) ?_
  refine ST.lift (fun _ _ k => T_bipush (v := nI 26) d_Fi_multiply_891 (by decide) k) ?_
  refine ST.lift (fun _ _ k => T_lshr d_Fi_multiply_893 k) (S_anyl fun z231 => ?_)
  refine ST.lift (fun _ _ k => T_lload_n d_Fi_multiply_894 rfl k) ?_
  refine ST.lift (fun _ _ k => T_lload d_Fi_multiply_895 rfl k) ?_
  refine ST.lift (fun _ _ k => T_lmul d_Fi_multiply_897 k) (S_anyl fun z232 => ?_)
  refine ST.lift (fun _ _ k => T_ladd d_Fi_multiply_898 k) (S_anyl fun z233 => ?_)
  refine ST.lift (fun _ _ k => T_lload d_Fi_multiply_899 rfl k) ?_
  refine ST.lift (fun _ _ k => T_lload d_Fi_multiply_901 rfl k) ?_
  refine ST.lift (fun _ _ k => T_lmul d_Fi_multiply_903 k) (S_anyl fun z234 => ?_)
  refine ST.lift (fun _ _ k => T_ladd d_Fi_multiply_904 k) (S_anyl fun z235 => ?_)
  refine ST.lift (fun _ _ k => T_lload d_Fi_multiply_905 rfl k) ?_
  refine ST.lift (fun _ _ k => T_lload d_Fi_multiply_907 rfl k) ?_
  refine ST.lift (fun _ _ k => T_lmul d_Fi_multiply_909 k) (S_anyl fun z236 => ?_)
  refine ST.lift (fun _ _ k => T_ladd d_Fi_multiply_910 k) (S_anyl fun z237 => ?_)
  refine ST.lift (fun _ _ k => T_lload d_Fi_multiply_911 rfl k) ?_
  refine ST.lift (fun _ _ k => T_lload d_Fi_multiply_913 rfl k) ?_
  refine ST.lift (fun _ _ k => T_lmul d_Fi_multiply_915 k) (S_anyl fun z238 => ?_)
  refine ST.lift (fun _ _ k => T_ladd d_Fi_multiply_916 k) (S_anyl fun z239 => ?_)
  refine ST.lift (fun _ _ k => T_lload d_Fi_multiply_917 rfl k) ?_
  refine ST.lift (fun _ _ k => T_lload d_Fi_multiply_919 rfl k) ?_
  refine ST.lift (fun _ _ k => T_lmul d_Fi_multiply_921 k) (S_anyl fun z240 => ?_)
  refine ST.lift (fun _ _ k => T_ladd d_Fi_multiply_922 k) (S_anyl fun z241 => ?_)
  refine ST.lift (fun _ _ k => T_lload d_Fi_multiply_923 rfl k) ?_
  refine ST.lift (fun _ _ k => T_lload d_Fi_multiply_925 rfl k) ?_
  refine ST.lift (fun _ _ k => T_lmul d_Fi_multiply_927 k) (S_anyl fun z242 => ?_)
  refine ST.lift (fun _ _ k => T_ladd d_Fi_multiply_928 k) (S_anyl fun z243 => ?_)
  refine ST.lift (fun _ _ k => T_lload d_Fi_multiply_929 rfl k) ?_
  refine ST.lift (fun _ _ k => T_lload d_Fi_multiply_931 rfl k) ?_
  refine ST.lift (fun _ _ k => T_lmul d_Fi_multiply_933 k) (S_anyl fun z244 => ?_)
  refine ST.lift (fun _ _ k => T_ladd d_Fi_multiply_934 k) (S_anyl fun z245 => ?_)
  refine ST.lift (fun _ _ k => T_lload d_Fi_multiply_935 rfl k) ?_
  refine ST.lift (fun _ _ k => T_lload d_Fi_multiply_937 rfl k) ?_
  refine ST.lift (fun _ _ k => T_lmul d_Fi_multiply_939 k) (S_anyl fun z246 => ?_)
  refine ST.lift (fun _ _ k => T_ladd d_Fi_multiply_940 k) (S_anyl fun z247 => ?_)
  refine ST.lift (fun _ _ k => T_lload d_Fi_multiply_941 rfl k) ?_
  refine ST.lift (fun _ _ k => T_lload d_Fi_multiply_943 rfl k) ?_
  refine ST.lift (fun _ _ k => T_lmul d_Fi_multiply_945 k) (S_anyl fun z248 => ?_)
  refine ST.lift (fun _ _ k => T_ladd d_Fi_multiply_946 k) (S_anyl fun z249 => ?_)
  refine ST.lift (fun _ _ k => T_lload d_Fi_multiply_947 rfl k) ?_
  refine ST.lift (fun _ _ k => T_lload d_Fi_multiply_949 rfl k) ?_
  refine ST.lift (fun _ _ k => T_lmul d_Fi_multiply_951 k) (S_anyl fun z250 => ?_)
  refine ST.lift (fun _ _ k => T_ladd d_Fi_multiply_952 k) (S_anyl fun z251 => ?_)
  refine ST.lift (fun _ _ k => T_lstore (L' := [(71, .long z251), (75, .long z76), (73, .long z54), (69, .long z34), (67, .long z33), (65, .long z32), (63, .long z31), (61, .long z30), (59, .long z29), (57, .long z28), (55, .long z27), (53, .long z26), (51, .long z25), (49, .long z24), (47, .long z23), (45, .long z22), (43, .long z21), (41, .long z20), (39, .long z19), (37, .long z18), (35, .long z17), (33, .long z16), (31, .long z15), (29, .long z14), (27, .long z13), (25, .long z12), (23, .long z11), (21, .long z10), (19, .long z9), (17, .long z8), (15, .long z7), (13, .long z6), (11, .long z5), (9, .long z4), (7, .long z3), (5, .long z2), (3, .long z1), (0, .ref to), (1, .ref f), (2, .ref g)]) d_Fi_multiply_953 (by decide) rfl k) ?_
  refine ST.lift (fun _ _ k => T_aload_n (v := .ref to) d_Fi_multiply_955 rfl (Or.inr ⟨_, rfl⟩) k) ?_
  refine ST.lift (fun _ _ k => T_bipush (v := nI 9) d_Fi_multiply_956 (by decide) k) ?_
  refine ST.lift (fun _ _ k => T_lload d_Fi_multiply_958 rfl k) ?_
  refine ST.lift (fun _ _ k => T_ldc2 d_Fi_multiply_960 kJ_Fi_37 k) ?_
  refine ST.lift (fun _ _ k => T_land d_Fi_multiply_963 k) (S_anyl fun z252 => ?_)
  refine S_lastore d_Fi_multiply_964 w_to a_to (vp_in_nI (by omega) (by omega)) ?_
  refine ST.lift (fun _ _ k => T_lload d_Fi_multiply_965 rfl k) ?_
  refine ST.lift (fun _ _ k => T_bipush (v := nI 25) d_Fi_multiply_967 (by decide) k) ?_
  refine ST.lift (fun _ _ k => T_lshr d_Fi_multiply_969 k) (S_anyl fun z253 => ?_)
  refine ST.lift (fun _ _ k => T_ldc2 d_Fi_multiply_970 kJ_Fi_31 k) ?_
  refine ST.lift (fun _ _ k => T_lmul d_Fi_multiply_973 k) (S_anyl fun z254 => ?_)
  refine ST.lift (fun _ _ k => T_lload d_Fi_multiply_974 rfl k) ?_
  refine ST.lift (fun _ _ k => T_ladd d_Fi_multiply_976 k) (S_anyl fun z255 => ?_)
  refine ST.lift (fun _ _ k => T_lstore (L' := [(71, .long z255), (75, .long z76), (73, .long z54), (69, .long z34), (67, .long z33), (65, .long z32), (63, .long z31), (61, .long z30), (59, .long z29), (57, .long z28), (55, .long z27), (53, .long z26), (51, .long z25), (49, .long z24), (47, .long z23), (45, .long z22), (43, .long z21), (41, .long z20), (39, .long z19), (37, .long z18), (35, .long z17), (33, .long z16), (31, .long z15), (29, .long z14), (27, .long z13), (25, .long z12), (23, .long z11), (21, .long z10), (19, .long z9), (17, .long z8), (15, .long z7), (13, .long z6), (11, .long z5), (9, .long z4), (7, .long z3), (5, .long z2), (3, .long z1), (0, .ref to), (1, .ref f), (2, .ref g)]) d_Fi_multiply_977 (by decide) rfl k) ?_
  refine ST.lift (fun _ _ k => T_aload_n (v := .ref to) d_Fi_multiply_979 rfl (Or.inr ⟨_, rfl⟩) k) ?_
  refine ST.lift (fun _ _ k => T_iconst (v := nI 0) d_Fi_multiply_980 (by decide) k) ?_
  refine ST.lift (fun _ _ k => T_lload d_Fi_multiply_981 rfl k) ?_
  refine ST.lift (fun _ _ k => T_ldc2 d_Fi_multiply_983 kJ_Fi_35 k) ?_
  refine ST.lift (fun _ _ k => T_land d_Fi_multiply_986 k) (S_anyl fun z256 => ?_)
  refine S_lastore d_Fi_multiply_987 w_to a_to (vp_in_nI (by omega) (by omega)) ?_
  refine ST.lift (fun _ _ k => T_aload_n (v := .ref to) d_Fi_multiply_988 rfl (Or.inr ⟨_, rfl⟩) k) ?_
  refine ST.lift (fun _ _ k => T_iconst (v := nI 1) d_Fi_multiply_989 (by decide) k) ?_
  refine ST.lift (fun _ _ k => T_lload d_Fi_multiply_990 rfl k) ?_
  refine ST.lift (fun _ _ k => T_lload d_Fi_multiply_992 rfl k) ?_
  refine ST.lift (fun _ _ k => T_bipush (v := nI 26) d_Fi_multiply_994 (by decide) k) ?_
  refine ST.lift (fun _ _ k => T_lshr d_Fi_multiply_996 k) (S_anyl fun z257 => ?_)
  refine ST.lift (fun _ _ k => T_ladd d_Fi_multiply_997 k) (S_anyl fun z258 => ?_)
  refine S_lastore d_Fi_multiply_998 w_to a_to (vp_in_nI (by omega) (by omega)) ?_
  exact S_vret d_Fi_multiply_999 rfl (by decide) (by decide) hQ
set_option maxRecDepth 100000 in
set_option maxHeartbeats 4000000 in
theorem c_Fi_negate (G : GX) (v : Nat → Int32) (to : Nat) (w_to : K0 ≤ to) (a_to : aL to 10) (f : Nat) (a_f : aL f 10) : CS G mi_Fi_negate [.ref to, .ref f] v (fun r v' => r = none ∧ v' = v) := by
  refine CS.of (by decide) (Nat.le_of_ble_eq_true rfl) ?_
  generalize hQe : (fun (r : Option Value) (v' : Nat → Int32) => r = none ∧ v' = v) = Q
  have hQ : Q none v := by rw [← hQe]; exact ⟨rfl, rfl⟩
  clear hQe
  show ST G mi_Fi_negate 0 [(0, .ref to), (1, .ref f)] [] v 0 0 Q
  refine ST.lift (fun _ _ k => T_iconst (v := nI 0) d_Fi_negate_0 (by decide) k) ?_
  refine ST.lift (fun _ _ k => T_istore_n (L' := [(2, .int (nI 0)), (0, .ref to), (1, .ref f)]) d_Fi_negate_1 (by decide) rfl k) ?_
  refine ST.lift (fun _ _ k => T_iload_n d_Fi_negate_2 rfl k) ?_
  refine ST.lift (fun _ _ k => T_bipush (v := nI 10) d_Fi_negate_3 (by decide) k) ?_
  refine S_icmp_geN d_Fi_negate_5 rfl (by omega) (by omega) (fun c => by first | exact absurd c (by omega) | exact c.elim | exact absurd c (by decide) | exact absurd (by assumption) c | exact absurd c (by assumption)) (fun _ => ?_)
  refine ST.lift (fun _ _ k => T_aload_n (v := .ref to) d_Fi_negate_8 rfl (Or.inr ⟨_, rfl⟩) k) ?_
  refine ST.lift (fun _ _ k => T_iload_n d_Fi_negate_9 rfl k) ?_
  refine ST.lift (fun _ _ k => T_aload_n (v := .ref f) d_Fi_negate_10 rfl (Or.inr ⟨_, rfl⟩) k) ?_
  refine ST.lift (fun _ _ k => T_iload_n d_Fi_negate_11 rfl k) ?_
  refine S_laload d_Fi_negate_12 a_f (vp_in_nI (by omega) (by omega)) (fun z1 => ?_)
  refine ST.lift (fun _ _ k => T_lneg d_Fi_negate_13 k) (S_anyl fun z2 => ?_)
  refine S_lastore d_Fi_negate_14 w_to a_to (vp_in_nI (by omega) (by omega)) ?_
  refine S_iincN (a := 0) (b := 1) (L' := [(2, .int (nI 1)), (0, .ref to), (1, .ref f)]) d_Fi_negate_15 (by decide) rfl rfl rfl ?_
  refine ST.lift (fun _ _ k => T_goto (tgt := 2) d_Fi_negate_18 rfl k) ?_
  refine ST.lift (fun _ _ k => T_iload_n d_Fi_negate_2 rfl k) ?_
  refine ST.lift (fun _ _ k => T_bipush (v := nI 10) d_Fi_negate_3 (by decide) k) ?_
  refine S_icmp_geN d_Fi_negate_5 rfl (by omega) (by omega) (fun c => by first | exact absurd c (by omega) | exact c.elim | exact absurd c (by decide) | exact absurd (by assumption) c | exact absurd c (by assumption)) (fun _ => ?_)
  refine ST.lift (fun _ _ k => T_aload_n (v := .ref to) d_Fi_negate_8 rfl (Or.inr ⟨_, rfl⟩) k) ?_
  refine ST.lift (fun _ _ k => T_iload_n d_Fi_negate_9 rfl k) ?_
  refine ST.lift (fun _ _ k => T_aload_n (v := .ref f) d_Fi_negate_10 rfl (Or.inr ⟨_, rfl⟩) k) ?_
  refine ST.lift (fun _ _ k => T_iload_n d_Fi_negate_11 rfl k) ?_
  refine S_laload d_Fi_negate_12 a_f (vp_in_nI (by omega) (by omega)) (fun z3 => ?_)
  refine ST.lift (fun _ _ k => T_lneg d_Fi_negate_13 k) (S_anyl fun z4 => ?_)
  refine S_lastore d_Fi_negate_14 w_to a_to (vp_in_nI (by omega) (by omega)) ?_
  refine S_iincN (a := 1) (b := 1) (L' := [(2, .int (nI 2)), (0, .ref to), (1, .ref f)]) d_Fi_negate_15 (by decide) rfl rfl rfl ?_
  refine ST.lift (fun _ _ k => T_goto (tgt := 2) d_Fi_negate_18 rfl k) ?_
  refine ST.lift (fun _ _ k => T_iload_n d_Fi_negate_2 rfl k) ?_
  refine ST.lift (fun _ _ k => T_bipush (v := nI 10) d_Fi_negate_3 (by decide) k) ?_
  refine S_icmp_geN d_Fi_negate_5 rfl (by omega) (by omega) (fun c => by first | exact absurd c (by omega) | exact c.elim | exact absurd c (by decide) | exact absurd (by assumption) c | exact absurd c (by assumption)) (fun _ => ?_)
  refine ST.lift (fun _ _ k => T_aload_n (v := .ref to) d_Fi_negate_8 rfl (Or.inr ⟨_, rfl⟩) k) ?_
  refine ST.lift (fun _ _ k => T_iload_n d_Fi_negate_9 rfl k) ?_
  refine ST.lift (fun _ _ k => T_aload_n (v := .ref f) d_Fi_negate_10 rfl (Or.inr ⟨_, rfl⟩) k) ?_
  refine ST.lift (fun _ _ k => T_iload_n d_Fi_negate_11 rfl k) ?_
  refine S_laload d_Fi_negate_12 a_f (vp_in_nI (by omega) (by omega)) (fun z5 => ?_)
  refine ST.lift (fun _ _ k => T_lneg d_Fi_negate_13 k) (S_anyl fun z6 => ?_)
  refine S_lastore d_Fi_negate_14 w_to a_to (vp_in_nI (by omega) (by omega)) ?_
  refine S_iincN (a := 2) (b := 1) (L' := [(2, .int (nI 3)), (0, .ref to), (1, .ref f)]) d_Fi_negate_15 (by decide) rfl rfl rfl ?_
  refine ST.lift (fun _ _ k => T_goto (tgt := 2) d_Fi_negate_18 rfl k) ?_
  refine ST.lift (fun _ _ k => T_iload_n d_Fi_negate_2 rfl k) ?_
  refine ST.lift (fun _ _ k => T_bipush (v := nI 10) d_Fi_negate_3 (by decide) k) ?_
  refine S_icmp_geN d_Fi_negate_5 rfl (by omega) (by omega) (fun c => by first | exact absurd c (by omega) | exact c.elim | exact absurd c (by decide) | exact absurd (by assumption) c | exact absurd c (by assumption)) (fun _ => ?_)
  refine ST.lift (fun _ _ k => T_aload_n (v := .ref to) d_Fi_negate_8 rfl (Or.inr ⟨_, rfl⟩) k) ?_
  refine ST.lift (fun _ _ k => T_iload_n d_Fi_negate_9 rfl k) ?_
  refine ST.lift (fun _ _ k => T_aload_n (v := .ref f) d_Fi_negate_10 rfl (Or.inr ⟨_, rfl⟩) k) ?_
  refine ST.lift (fun _ _ k => T_iload_n d_Fi_negate_11 rfl k) ?_
  refine S_laload d_Fi_negate_12 a_f (vp_in_nI (by omega) (by omega)) (fun z7 => ?_)
  refine ST.lift (fun _ _ k => T_lneg d_Fi_negate_13 k) (S_anyl fun z8 => ?_)
  refine S_lastore d_Fi_negate_14 w_to a_to (vp_in_nI (by omega) (by omega)) ?_
  refine S_iincN (a := 3) (b := 1) (L' := [(2, .int (nI 4)), (0, .ref to), (1, .ref f)]) d_Fi_negate_15 (by decide) rfl rfl rfl ?_
  refine ST.lift (fun _ _ k => T_goto (tgt := 2) d_Fi_negate_18 rfl k) ?_
  refine ST.lift (fun _ _ k => T_iload_n d_Fi_negate_2 rfl k) ?_
  refine ST.lift (fun _ _ k => T_bipush (v := nI 10) d_Fi_negate_3 (by decide) k) ?_
  refine S_icmp_geN d_Fi_negate_5 rfl (by omega) (by omega) (fun c => by first | exact absurd c (by omega) | exact c.elim | exact absurd c (by decide) | exact absurd (by assumption) c | exact absurd c (by assumption)) (fun _ => ?_)
  refine ST.lift (fun _ _ k => T_aload_n (v := .ref to) d_Fi_negate_8 rfl (Or.inr ⟨_, rfl⟩) k) ?_
  refine ST.lift (fun _ _ k => T_iload_n d_Fi_negate_9 rfl k) ?_
  refine ST.lift (fun _ _ k => T_aload_n (v := .ref f) d_Fi_negate_10 rfl (Or.inr ⟨_, rfl⟩) k) ?_
  refine ST.lift (fun _ _ k => T_iload_n d_Fi_negate_11 rfl k) ?_
  refine S_laload d_Fi_negate_12 a_f (vp_in_nI (by omega) (by omega)) (fun z9 => ?_)
  refine ST.lift (fun _ _ k => T_lneg d_Fi_negate_13 k) (S_anyl fun z10 => ?_)
  refine S_lastore d_Fi_negate_14 w_to a_to (vp_in_nI (by omega) (by omega)) ?_
  refine S_iincN (a := 4) (b := 1) (L' := [(2, .int (nI 5)), (0, .ref to), (1, .ref f)]) d_Fi_negate_15 (by decide) rfl rfl rfl ?_
  refine ST.lift (fun _ _ k => T_goto (tgt := 2) d_Fi_negate_18 rfl k) ?_
  refine ST.lift (fun _ _ k => T_iload_n d_Fi_negate_2 rfl k) ?_
  refine ST.lift (fun _ _ k => T_bipush (v := nI 10) d_Fi_negate_3 (by decide) k) ?_
  refine S_icmp_geN d_Fi_negate_5 rfl (by omega) (by omega) (fun c => by first | exact absurd c (by omega) | exact c.elim | exact absurd c (by decide) | exact absurd (by assumption) c | exact absurd c (by assumption)) (fun _ => ?_)
  refine ST.lift (fun _ _ k => T_aload_n (v := .ref to) d_Fi_negate_8 rfl (Or.inr ⟨_, rfl⟩) k) ?_
  refine ST.lift (fun _ _ k => T_iload_n d_Fi_negate_9 rfl k) ?_
  refine ST.lift (fun _ _ k => T_aload_n (v := .ref f) d_Fi_negate_10 rfl (Or.inr ⟨_, rfl⟩) k) ?_
  refine ST.lift (fun _ _ k => T_iload_n d_Fi_negate_11 rfl k) ?_
  refine S_laload d_Fi_negate_12 a_f (vp_in_nI (by omega) (by omega)) (fun z11 => ?_)
  refine ST.lift (fun _ _ k => T_lneg d_Fi_negate_13 k) (S_anyl fun z12 => ?_)
  refine S_lastore d_Fi_negate_14 w_to a_to (vp_in_nI (by omega) (by omega)) ?_
  refine S_iincN (a := 5) (b := 1) (L' := [(2, .int (nI 6)), (0, .ref to), (1, .ref f)]) d_Fi_negate_15 (by decide) rfl rfl rfl ?_
  refine ST.lift (fun _ _ k => T_goto (tgt := 2) d_Fi_negate_18 rfl k) ?_
  refine ST.lift (fun _ _ k => T_iload_n d_Fi_negate_2 rfl k) ?_
  refine ST.lift (fun _ _ k => T_bipush (v := nI 10) d_Fi_negate_3 (by decide) k) ?_
  refine S_icmp_geN d_Fi_negate_5 rfl (by omega) (by omega) (fun c => by first | exact absurd c (by omega) | exact c.elim | exact absurd c (by decide) | exact absurd (by assumption) c | exact absurd c (by assumption)) (fun _ => ?_)
  refine ST.lift (fun _ _ k => T_aload_n (v := .ref to) d_Fi_negate_8 rfl (Or.inr ⟨_, rfl⟩) k) ?_
  refine ST.lift (fun _ _ k => T_iload_n d_Fi_negate_9 rfl k) ?_
  refine ST.lift (fun _ _ k => T_aload_n (v := .ref f) d_Fi_negate_10 rfl (Or.inr ⟨_, rfl⟩) k) ?_
  refine ST.lift (fun _ _ k => T_iload_n d_Fi_negate_11 rfl k) ?_
  refine S_laload d_Fi_negate_12 a_f (vp_in_nI (by omega) (by omega)) (fun z13 => ?_)
  refine ST.lift (fun _ _ k => T_lneg d_Fi_negate_13 k) (S_anyl fun z14 => ?_)
  refine S_lastore d_Fi_negate_14 w_to a_to (vp_in_nI (by omega) (by omega)) ?_
  refine S_iincN (a := 6) (b := 1) (L' := [(2, .int (nI 7)), (0, .ref to), (1, .ref f)]) d_Fi_negate_15 (by decide) rfl rfl rfl ?_
  refine ST.lift (fun _ _ k => T_goto (tgt := 2) d_Fi_negate_18 rfl k) ?_
  refine ST.lift (fun _ _ k => T_iload_n d_Fi_negate_2 rfl k) ?_
  refine ST.lift (fun _ _ k => T_bipush (v := nI 10) d_Fi_negate_3 (by decide) k) ?_
  refine S_icmp_geN d_Fi_negate_5 rfl (by omega) (by omega) (fun c => by first | exact absurd c (by omega) | exact c.elim | exact absurd c (by decide) | exact absurd (by assumption) c | exact absurd c (by assumption)) (fun _ => ?_)
  refine ST.lift (fun _ _ k => T_aload_n (v := .ref to) d_Fi_negate_8 rfl (Or.inr ⟨_, rfl⟩) k) ?_
  refine ST.lift (fun _ _ k => T_iload_n d_Fi_negate_9 rfl k) ?_
  refine ST.lift (fun _ _ k => T_aload_n (v := .ref f) d_Fi_negate_10 rfl (Or.inr ⟨_, rfl⟩) k) ?_
  refine ST.lift (fun _ _ k => T_iload_n d_Fi_negate_11 rfl k) ?_
  refine S_laload d_Fi_negate_12 a_f (vp_in_nI (by omega) (by omega)) (fun z15 => ?_)
  refine ST.lift (fun _ _ k => T_lneg d_Fi_negate_13 k) (S_anyl fun z16 => ?_)
  refine S_lastore d_Fi_negate_14 w_to a_to (vp_in_nI (by omega) (by omega)) ?_
  refine S_iincN (a := 7) (b := 1) (L' := [(2, .int (nI 8)), (0, .ref to), (1, .ref f)]) d_Fi_negate_15 (by decide) rfl rfl rfl ?_
  refine ST.lift (fun _ _ k => T_goto (tgt := 2) d_Fi_negate_18 rfl k) ?_
  refine ST.lift (fun _ _ k => T_iload_n d_Fi_negate_2 rfl k) ?_
  refine ST.lift (fun _ _ k => T_bipush (v := nI 10) d_Fi_negate_3 (by decide) k) ?_
  refine S_icmp_geN d_Fi_negate_5 rfl (by omega) (by omega) (fun c => by first | exact absurd c (by omega) | exact c.elim | exact absurd c (by decide) | exact absurd (by assumption) c | exact absurd c (by assumption)) (fun _ => ?_)
  refine ST.lift (fun _ _ k => T_aload_n (v := .ref to) d_Fi_negate_8 rfl (Or.inr ⟨_, rfl⟩) k) ?_
  refine ST.lift (fun _ _ k => T_iload_n d_Fi_negate_9 rfl k) ?_
  refine ST.lift (fun _ _ k => T_aload_n (v := .ref f) d_Fi_negate_10 rfl (Or.inr ⟨_, rfl⟩) k) ?_
  refine ST.lift (fun _ _ k => T_iload_n d_Fi_negate_11 rfl k) ?_
  refine S_laload d_Fi_negate_12 a_f (vp_in_nI (by omega) (by omega)) (fun z17 => ?_)
  refine ST.lift (fun _ _ k => T_lneg d_Fi_negate_13 k) (S_anyl fun z18 => ?_)
  refine S_lastore d_Fi_negate_14 w_to a_to (vp_in_nI (by omega) (by omega)) ?_
  refine S_iincN (a := 8) (b := 1) (L' := [(2, .int (nI 9)), (0, .ref to), (1, .ref f)]) d_Fi_negate_15 (by decide) rfl rfl rfl ?_
  refine ST.lift (fun _ _ k => T_goto (tgt := 2) d_Fi_negate_18 rfl k) ?_
  refine ST.lift (fun _ _ k => T_iload_n d_Fi_negate_2 rfl k) ?_
  refine ST.lift (fun _ _ k => T_bipush (v := nI 10) d_Fi_negate_3 (by decide) k) ?_
  refine S_icmp_geN d_Fi_negate_5 rfl (by omega) (by omega) (fun c => by first | exact absurd c (by omega) | exact c.elim | exact absurd c (by decide) | exact absurd (by assumption) c | exact absurd c (by assumption)) (fun _ => ?_)
  refine ST.lift (fun _ _ k => T_aload_n (v := .ref to) d_Fi_negate_8 rfl (Or.inr ⟨_, rfl⟩) k) ?_
  refine ST.lift (fun _ _ k => T_iload_n d_Fi_negate_9 rfl k) ?_
  refine ST.lift (fun _ _ k => T_aload_n (v := .ref f) d_Fi_negate_10 rfl (Or.inr ⟨_, rfl⟩) k) ?_
  refine ST.lift (fun _ _ k => T_iload_n d_Fi_negate_11 rfl k) ?_
  refine S_laload d_Fi_negate_12 a_f (vp_in_nI (by omega) (by omega)) (fun z19 => ?_)
  refine ST.lift (fun _ _ k => T_lneg d_Fi_negate_13 k) (S_anyl fun z20 => ?_)
  refine S_lastore d_Fi_negate_14 w_to a_to (vp_in_nI (by omega) (by omega)) ?_
  refine S_iincN (a := 9) (b := 1) (L' := [(2, .int (nI 10)), (0, .ref to), (1, .ref f)]) d_Fi_negate_15 (by decide) rfl rfl rfl ?_
  refine ST.lift (fun _ _ k => T_goto (tgt := 2) d_Fi_negate_18 rfl k) ?_
  refine ST.lift (fun _ _ k => T_iload_n d_Fi_negate_2 rfl k) ?_
  refine ST.lift (fun _ _ k => T_bipush (v := nI 10) d_Fi_negate_3 (by decide) k) ?_
  refine S_icmp_geN d_Fi_negate_5 rfl (by omega) (by omega) (fun _ => ?_) (fun c => by first | exact absurd c (by omega) | exact c.elim | exact absurd c (by decide) | exact absurd (by assumption) c | exact absurd c (by assumption))
  exact S_vret d_Fi_negate_21 rfl (by decide) (by decide) hQ
set_option maxRecDepth 100000 in
set_option maxHeartbeats 4000000 in
theorem c_Fi_copy (G : GX) (v : Nat → Int32) (to : Nat) (w_to : K0 ≤ to) (a_to : aL to 10) (f : Nat) (a_f : aL f 10) : CS G mi_Fi_copy [.ref to, .ref f] v (fun r v' => r = none ∧ v' = v) := by
  refine CS.of (by decide) (Nat.le_of_ble_eq_true rfl) ?_
  generalize hQe : (fun (r : Option Value) (v' : Nat → Int32) => r = none ∧ v' = v) = Q
  have hQ : Q none v := by rw [← hQe]; exact ⟨rfl, rfl⟩
  clear hQe
  show ST G mi_Fi_copy 0 [(0, .ref to), (1, .ref f)] [] v 0 0 Q
  refine ST.lift (fun _ _ k => T_iconst (v := nI 0) d_Fi_copy_0 (by decide) k) ?_
  refine ST.lift (fun _ _ k => T_istore_n (L' := [(2, .int (nI 0)), (0, .ref to), (1, .ref f)]) d_Fi_copy_1 (by decide) rfl k) ?_
  refine ST.lift (fun _ _ k => T_iload_n d_Fi_copy_2 rfl k) ?_
  refine ST.lift (fun _ _ k => T_bipush (v := nI 10) d_Fi_copy_3 (by decide) k) ?_
  refine S_icmp_geN d_Fi_copy_5 rfl (by omega) (by omega) (fun c => by first | exact absurd c (by omega) | exact c.elim | exact absurd c (by decide) | exact absurd (by assumption) c | exact absurd c (by assumption)) (fun _ => ?_)
  refine ST.lift (fun _ _ k => T_aload_n (v := .ref to) d_Fi_copy_8 rfl (Or.inr ⟨_, rfl⟩) k) ?_
  refine ST.lift (fun _ _ k => T_iload_n d_Fi_copy_9 rfl k) ?_
  refine ST.lift (fun _ _ k => T_aload_n (v := .ref f) d_Fi_copy_10 rfl (Or.inr ⟨_, rfl⟩) k) ?_
  refine ST.lift (fun _ _ k => T_iload_n d_Fi_copy_11 rfl k) ?_
  refine S_laload d_Fi_copy_12 a_f (vp_in_nI (by omega) (by omega)) (fun z1 => ?_)
  refine S_lastore d_Fi_copy_13 w_to a_to (vp_in_nI (by omega) (by omega)) ?_
  refine S_iincN (a := 0) (b := 1) (L' := [(2, .int (nI 1)), (0, .ref to), (1, .ref f)]) d_Fi_copy_14 (by decide) rfl rfl rfl ?_
  refine ST.lift (fun _ _ k => T_goto (tgt := 2) d_Fi_copy_17 rfl k) ?_
  refine ST.lift (fun _ _ k => T_iload_n d_Fi_copy_2 rfl k) ?_
  refine ST.lift (fun _ _ k => T_bipush (v := nI 10) d_Fi_copy_3 (by decide) k) ?_
  refine S_icmp_geN d_Fi_copy_5 rfl (by omega) (by omega) (fun c => by first | exact absurd c (by omega) | exact c.elim | exact absurd c (by decide) | exact absurd (by assumption) c | exact absurd c (by assumption)) (fun _ => ?_)
  refine ST.lift (fun _ _ k => T_aload_n (v := .ref to) d_Fi_copy_8 rfl (Or.inr ⟨_, rfl⟩) k) ?_
  refine ST.lift (fun _ _ k => T_iload_n d_Fi_copy_9 rfl k) ?_
  refine ST.lift (fun _ _ k => T_aload_n (v := .ref f) d_Fi_copy_10 rfl (Or.inr ⟨_, rfl⟩) k) ?_
  refine ST.lift (fun _ _ k => T_iload_n d_Fi_copy_11 rfl k) ?_
  refine S_laload d_Fi_copy_12 a_f (vp_in_nI (by omega) (by omega)) (fun z2 => ?_)
  refine S_lastore d_Fi_copy_13 w_to a_to (vp_in_nI (by omega) (by omega)) ?_
  refine S_iincN (a := 1) (b := 1) (L' := [(2, .int (nI 2)), (0, .ref to), (1, .ref f)]) d_Fi_copy_14 (by decide) rfl rfl rfl ?_
  refine ST.lift (fun _ _ k => T_goto (tgt := 2) d_Fi_copy_17 rfl k) ?_
  refine ST.lift (fun _ _ k => T_iload_n d_Fi_copy_2 rfl k) ?_
  refine ST.lift (fun _ _ k => T_bipush (v := nI 10) d_Fi_copy_3 (by decide) k) ?_
  refine S_icmp_geN d_Fi_copy_5 rfl (by omega) (by omega) (fun c => by first | exact absurd c (by omega) | exact c.elim | exact absurd c (by decide) | exact absurd (by assumption) c | exact absurd c (by assumption)) (fun _ => ?_)
  refine ST.lift (fun _ _ k => T_aload_n (v := .ref to) d_Fi_copy_8 rfl (Or.inr ⟨_, rfl⟩) k) ?_
  refine ST.lift (fun _ _ k => T_iload_n d_Fi_copy_9 rfl k) ?_
  refine ST.lift (fun _ _ k => T_aload_n (v := .ref f) d_Fi_copy_10 rfl (Or.inr ⟨_, rfl⟩) k) ?_
  refine ST.lift (fun _ _ k => T_iload_n d_Fi_copy_11 rfl k) ?_
  refine S_laload d_Fi_copy_12 a_f (vp_in_nI (by omega) (by omega)) (fun z3 => ?_)
  refine S_lastore d_Fi_copy_13 w_to a_to (vp_in_nI (by omega) (by omega)) ?_
  refine S_iincN (a := 2) (b := 1) (L' := [(2, .int (nI 3)), (0, .ref to), (1, .ref f)]) d_Fi_copy_14 (by decide) rfl rfl rfl ?_
  refine ST.lift (fun _ _ k => T_goto (tgt := 2) d_Fi_copy_17 rfl k) ?_
  refine ST.lift (fun _ _ k => T_iload_n d_Fi_copy_2 rfl k) ?_
  refine ST.lift (fun _ _ k => T_bipush (v := nI 10) d_Fi_copy_3 (by decide) k) ?_
  refine S_icmp_geN d_Fi_copy_5 rfl (by omega) (by omega) (fun c => by first | exact absurd c (by omega) | exact c.elim | exact absurd c (by decide) | exact absurd (by assumption) c | exact absurd c (by assumption)) (fun _ => ?_)
  refine ST.lift (fun _ _ k => T_aload_n (v := .ref to) d_Fi_copy_8 rfl (Or.inr ⟨_, rfl⟩) k) ?_
  refine ST.lift (fun _ _ k => T_iload_n d_Fi_copy_9 rfl k) ?_
  refine ST.lift (fun _ _ k => T_aload_n (v := .ref f) d_Fi_copy_10 rfl (Or.inr ⟨_, rfl⟩) k) ?_
  refine ST.lift (fun _ _ k => T_iload_n d_Fi_copy_11 rfl k) ?_
  refine S_laload d_Fi_copy_12 a_f (vp_in_nI (by omega) (by omega)) (fun z4 => ?_)
  refine S_lastore d_Fi_copy_13 w_to a_to (vp_in_nI (by omega) (by omega)) ?_
  refine S_iincN (a := 3) (b := 1) (L' := [(2, .int (nI 4)), (0, .ref to), (1, .ref f)]) d_Fi_copy_14 (by decide) rfl rfl rfl ?_
  refine ST.lift (fun _ _ k => T_goto (tgt := 2) d_Fi_copy_17 rfl k) ?_
  refine ST.lift (fun _ _ k => T_iload_n d_Fi_copy_2 rfl k) ?_
  refine ST.lift (fun _ _ k => T_bipush (v := nI 10) d_Fi_copy_3 (by decide) k) ?_
  refine S_icmp_geN d_Fi_copy_5 rfl (by omega) (by omega) (fun c => by first | exact absurd c (by omega) | exact c.elim | exact absurd c (by decide) | exact absurd (by assumption) c | exact absurd c (by assumption)) (fun _ => ?_)
  refine ST.lift (fun _ _ k => T_aload_n (v := .ref to) d_Fi_copy_8 rfl (Or.inr ⟨_, rfl⟩) k) ?_
  refine ST.lift (fun _ _ k => T_iload_n d_Fi_copy_9 rfl k) ?_
  refine ST.lift (fun _ _ k => T_aload_n (v := .ref f) d_Fi_copy_10 rfl (Or.inr ⟨_, rfl⟩) k) ?_
  refine ST.lift (fun _ _ k => T_iload_n d_Fi_copy_11 rfl k) ?_
  refine S_laload d_Fi_copy_12 a_f (vp_in_nI (by omega) (by omega)) (fun z5 => ?_)
  refine S_lastore d_Fi_copy_13 w_to a_to (vp_in_nI (by omega) (by omega)) ?_
  refine S_iincN (a := 4) (b := 1) (L' := [(2, .int (nI 5)), (0, .ref to), (1, .ref f)]) d_Fi_copy_14 (by decide) rfl rfl rfl ?_
  refine ST.lift (fun _ _ k => T_goto (tgt := 2) d_Fi_copy_17 rfl k) ?_
  refine ST.lift (fun _ _ k => T_iload_n d_Fi_copy_2 rfl k) ?_
  refine ST.lift (fun _ _ k => T_bipush (v := nI 10) d_Fi_copy_3 (by decide) k) ?_
  refine S_icmp_geN d_Fi_copy_5 rfl (by omega) (by omega) (fun c => by first | exact absurd c (by omega) | exact c.elim | exact absurd c (by decide) | exact absurd (by assumption) c | exact absurd c (by assumption)) (fun _ => ?_)
  refine ST.lift (fun _ _ k => T_aload_n (v := .ref to) d_Fi_copy_8 rfl (Or.inr ⟨_, rfl⟩) k) ?_
  refine ST.lift (fun _ _ k => T_iload_n d_Fi_copy_9 rfl k) ?_
  refine ST.lift (fun _ _ k => T_aload_n (v := .ref f) d_Fi_copy_10 rfl (Or.inr ⟨_, rfl⟩) k) ?_
  refine ST.lift (fun _ _ k => T_iload_n d_Fi_copy_11 rfl k) ?_
  refine S_laload d_Fi_copy_12 a_f (vp_in_nI (by omega) (by omega)) (fun z6 => ?_)
  refine S_lastore d_Fi_copy_13 w_to a_to (vp_in_nI (by omega) (by omega)) ?_
  refine S_iincN (a := 5) (b := 1) (L' := [(2, .int (nI 6)), (0, .ref to), (1, .ref f)]) d_Fi_copy_14 (by decide) rfl rfl rfl ?_
  refine ST.lift (fun _ _ k => T_goto (tgt := 2) d_Fi_copy_17 rfl k) ?_
  refine ST.lift (fun _ _ k => T_iload_n d_Fi_copy_2 rfl k) ?_
  refine ST.lift (fun _ _ k => T_bipush (v := nI 10) d_Fi_copy_3 (by decide) k) ?_
  refine S_icmp_geN d_Fi_copy_5 rfl (by omega) (by omega) (fun c => by first | exact absurd c (by omega) | exact c.elim | exact absurd c (by decide) | exact absurd (by assumption) c | exact absurd c (by assumption)) (fun _ => ?_)
  refine ST.lift (fun _ _ k => T_aload_n (v := .ref to) d_Fi_copy_8 rfl (Or.inr ⟨_, rfl⟩) k) ?_
  refine ST.lift (fun _ _ k => T_iload_n d_Fi_copy_9 rfl k) ?_
  refine ST.lift (fun _ _ k => T_aload_n (v := .ref f) d_Fi_copy_10 rfl (Or.inr ⟨_, rfl⟩) k) ?_
  refine ST.lift (fun _ _ k => T_iload_n d_Fi_copy_11 rfl k) ?_
  refine S_laload d_Fi_copy_12 a_f (vp_in_nI (by omega) (by omega)) (fun z7 => ?_)
  refine S_lastore d_Fi_copy_13 w_to a_to (vp_in_nI (by omega) (by omega)) ?_
  refine S_iincN (a := 6) (b := 1) (L' := [(2, .int (nI 7)), (0, .ref to), (1, .ref f)]) d_Fi_copy_14 (by decide) rfl rfl rfl ?_
  refine ST.lift (fun _ _ k => T_goto (tgt := 2) d_Fi_copy_17 rfl k) ?_
  refine ST.lift (fun _ _ k => T_iload_n d_Fi_copy_2 rfl k) ?_
  refine ST.lift (fun _ _ k => T_bipush (v := nI 10) d_Fi_copy_3 (by decide) k) ?_
  refine S_icmp_geN d_Fi_copy_5 rfl (by omega) (by omega) (fun c => by first | exact absurd c (by omega) | exact c.elim | exact absurd c (by decide) | exact absurd (by assumption) c | exact absurd c (by assumption)) (fun _ => ?_)
  refine ST.lift (fun _ _ k => T_aload_n (v := .ref to) d_Fi_copy_8 rfl (Or.inr ⟨_, rfl⟩) k) ?_
  refine ST.lift (fun _ _ k => T_iload_n d_Fi_copy_9 rfl k) ?_
  refine ST.lift (fun _ _ k => T_aload_n (v := .ref f) d_Fi_copy_10 rfl (Or.inr ⟨_, rfl⟩) k) ?_
  refine ST.lift (fun _ _ k => T_iload_n d_Fi_copy_11 rfl k) ?_
  refine S_laload d_Fi_copy_12 a_f (vp_in_nI (by omega) (by omega)) (fun z8 => ?_)
  refine S_lastore d_Fi_copy_13 w_to a_to (vp_in_nI (by omega) (by omega)) ?_
  refine S_iincN (a := 7) (b := 1) (L' := [(2, .int (nI 8)), (0, .ref to), (1, .ref f)]) d_Fi_copy_14 (by decide) rfl rfl rfl ?_
  refine ST.lift (fun _ _ k => T_goto (tgt := 2) d_Fi_copy_17 rfl k) ?_
  refine ST.lift (fun _ _ k => T_iload_n d_Fi_copy_2 rfl k) ?_
  refine ST.lift (fun _ _ k => T_bipush (v := nI 10) d_Fi_copy_3 (by decide) k) ?_
  refine S_icmp_geN d_Fi_copy_5 rfl (by omega) (by omega) (fun c => by first | exact absurd c (by omega) | exact c.elim | exact absurd c (by decide) | exact absurd (by assumption) c | exact absurd c (by assumption)) (fun _ => ?_)
  refine ST.lift (fun _ _ k => T_aload_n (v := .ref to) d_Fi_copy_8 rfl (Or.inr ⟨_, rfl⟩) k) ?_
  refine ST.lift (fun _ _ k => T_iload_n d_Fi_copy_9 rfl k) ?_
  refine ST.lift (fun _ _ k => T_aload_n (v := .ref f) d_Fi_copy_10 rfl (Or.inr ⟨_, rfl⟩) k) ?_
  refine ST.lift (fun _ _ k => T_iload_n d_Fi_copy_11 rfl k) ?_
  refine S_laload d_Fi_copy_12 a_f (vp_in_nI (by omega) (by omega)) (fun z9 => ?_)
  refine S_lastore d_Fi_copy_13 w_to a_to (vp_in_nI (by omega) (by omega)) ?_
  refine S_iincN (a := 8) (b := 1) (L' := [(2, .int (nI 9)), (0, .ref to), (1, .ref f)]) d_Fi_copy_14 (by decide) rfl rfl rfl ?_
  refine ST.lift (fun _ _ k => T_goto (tgt := 2) d_Fi_copy_17 rfl k) ?_
  refine ST.lift (fun _ _ k => T_iload_n d_Fi_copy_2 rfl k) ?_
  refine ST.lift (fun _ _ k => T_bipush (v := nI 10) d_Fi_copy_3 (by decide) k) ?_
  refine S_icmp_geN d_Fi_copy_5 rfl (by omega) (by omega) (fun c => by first | exact absurd c (by omega) | exact c.elim | exact absurd c (by decide) | exact absurd (by assumption) c | exact absurd c (by assumption)) (fun _ => ?_)
  refine ST.lift (fun _ _ k => T_aload_n (v := .ref to) d_Fi_copy_8 rfl (Or.inr ⟨_, rfl⟩) k) ?_
  refine ST.lift (fun _ _ k => T_iload_n d_Fi_copy_9 rfl k) ?_
  refine ST.lift (fun _ _ k => T_aload_n (v := .ref f) d_Fi_copy_10 rfl (Or.inr ⟨_, rfl⟩) k) ?_
  refine ST.lift (fun _ _ k => T_iload_n d_Fi_copy_11 rfl k) ?_
  refine S_laload d_Fi_copy_12 a_f (vp_in_nI (by omega) (by omega)) (fun z10 => ?_)
  refine S_lastore d_Fi_copy_13 w_to a_to (vp_in_nI (by omega) (by omega)) ?_
  refine S_iincN (a := 9) (b := 1) (L' := [(2, .int (nI 10)), (0, .ref to), (1, .ref f)]) d_Fi_copy_14 (by decide) rfl rfl rfl ?_
  refine ST.lift (fun _ _ k => T_goto (tgt := 2) d_Fi_copy_17 rfl k) ?_
  refine ST.lift (fun _ _ k => T_iload_n d_Fi_copy_2 rfl k) ?_
  refine ST.lift (fun _ _ k => T_bipush (v := nI 10) d_Fi_copy_3 (by decide) k) ?_
  refine S_icmp_geN d_Fi_copy_5 rfl (by omega) (by omega) (fun _ => ?_) (fun c => by first | exact absurd c (by omega) | exact c.elim | exact absurd c (by decide) | exact absurd (by assumption) c | exact absurd c (by assumption))
  exact S_vret d_Fi_copy_20 rfl (by decide) (by decide) hQ
set_option maxRecDepth 100000 in
set_option maxHeartbeats 4000000 in
theorem c_Fi_square (G : GX) (v : Nat → Int32) (to : Nat) (w_to : K0 ≤ to) (a_to : aL to 10) (f : Nat) (a_f : aL f 10) (rounds : Nat) (b_rounds : rounds ≤ 1000) : CS G mi_Fi_square [.ref to, .ref f, .int (nI rounds)] v (fun r v' => r = none ∧ v' = v) := by
  refine CS.of (by decide) (Nat.le_of_ble_eq_true rfl) ?_
  generalize hQe : (fun (r : Option Value) (v' : Nat → Int32) => r = none ∧ v' = v) = Q
  have hQ : Q none v := by rw [← hQe]; exact ⟨rfl, rfl⟩
  clear hQe
  show ST G mi_Fi_square 0 [(0, .ref to), (1, .ref f), (2, .int (nI rounds))] [] v 0 0 Q
  refine ST.lift (fun _ _ k => T_aload_n (v := .ref f) d_Fi_square_0 rfl (Or.inr ⟨_, rfl⟩) k) ?_
  refine ST.lift (fun _ _ k => T_iconst (v := nI 0) d_Fi_square_1 (by decide) k) ?_
  refine S_laload d_Fi_square_2 a_f (vp_in_nI (by omega) (by omega)) (fun z1 => ?_)
  refine ST.lift (fun _ _ k => T_lstore_n (L' := [(3, .long z1), (0, .ref to), (1, .ref f), (2, .int (nI rounds))]) d_Fi_square_3 (by decide) rfl k) ?_
  refine ST.lift (fun _ _ k => T_aload_n (v := .ref f) d_Fi_square_4 rfl (Or.inr ⟨_, rfl⟩) k) ?_
  refine ST.lift (fun _ _ k => T_iconst (v := nI 1) d_Fi_square_5 (by decide) k) ?_
  refine S_laload d_Fi_square_6 a_f (vp_in_nI (by omega) (by omega)) (fun z2 => ?_)
  refine ST.lift (fun _ _ k => T_lstore (L' := [(5, .long z2), (3, .long z1), (0, .ref to), (1, .ref f), (2, .int (nI rounds))]) d_Fi_square_7 (by decide) rfl k) ?_
  refine ST.lift (fun _ _ k => T_aload_n (v := .ref f) d_Fi_square_9 rfl (Or.inr ⟨_, rfl⟩) k) ?_
  refine ST.lift (fun _ _ k => T_iconst (v := nI 2) d_Fi_square_10 (by decide) k) ?_
  refine S_laload d_Fi_square_11 a_f (vp_in_nI (by omega) (by omega)) (fun z3 => ?_)
  refine ST.lift (fun _ _ k => T_lstore (L' := [(7, .long z3), (5, .long z2), (3, .long z1), (0, .ref to), (1, .ref f), (2, .int (nI rounds))]) d_Fi_square_12 (by decide) rfl k) ?_
  refine ST.lift (fun _ _ k => T_aload_n (v := .ref f) d_Fi_square_14 rfl (Or.inr ⟨_, rfl⟩) k) ?_
  refine ST.lift (fun _ _ k => T_iconst (v := nI 3) d_Fi_square_15 (by decide) k) ?_
  refine S_laload d_Fi_square_16 a_f (vp_in_nI (by omega) (by omega)) (fun z4 => ?_)
  refine ST.lift (fun _ _ k => T_lstore (L' := [(9, .long z4), (7, .long z3), (5, .long z2), (3, .long z1), (0, .ref to), (1, .ref f), (2, .int (nI rounds))]) d_Fi_square_17 (by decide) rfl k) ?_
  refine ST.lift (fun _ _ k => T_aload_n (v := .ref f) d_Fi_square_19 rfl (Or.inr ⟨_, rfl⟩) k) ?_
  refine ST.lift (fun _ _ k => T_iconst (v := nI 4) d_Fi_square_20 (by decide) k) ?_
  refine S_laload d_Fi_square_21 a_f (vp_in_nI (by omega) (by omega)) (fun z5 => ?_)
  refine ST.lift (fun _ _ k => T_lstore (L' := [(11, .long z5), (9, .long z4), (7, .long z3), (5, .long z2), (3, .long z1), (0, .ref to), (1, .ref f), (2, .int (nI rounds))]) d_Fi_square_22 (by decide) rfl k) ?_
  refine ST.lift (fun _ _ k => T_aload_n (v := .ref f) d_Fi_square_24 rfl (Or.inr ⟨_, rfl⟩) k) ?_
  refine ST.lift (fun _ _ k => T_iconst (v := nI 5) d_Fi_square_25 (by decide) k) ?_
  refine S_laload d_Fi_square_26 a_f (vp_in_nI (by omega) (by omega)) (fun z6 => ?_)
  refine ST.lift (fun _ _ k => T_lstore (L' := [(13, .long z6), (11, .long z5), (9, .long z4), (7, .long z3), (5, .long z2), (3, .long z1), (0, .ref to), (1, .ref f), (2, .int (nI rounds))]) d_Fi_square_27 (by decide) rfl k) ?_
  refine ST.lift (fun _ _ k => T_aload_n (v := .ref f) d_Fi_square_29 rfl (Or.inr ⟨_, rfl⟩) k) ?_
  refine ST.lift (fun _ _ k => T_bipush (v := nI 6) d_Fi_square_30 (by decide) k) ?_
  refine S_laload d_Fi_square_32 a_f (vp_in_nI (by omega) (by omega)) (fun z7 => ?_)
  refine ST.lift (fun _ _ k => T_lstore (L' := [(15, .long z7), (13, .long z6), (11, .long z5), (9, .long z4), (7, .long z3), (5, .long z2), (3, .long z1), (0, .ref to), (1, .ref f), (2, .int (nI rounds))]) d_Fi_square_33 (by decide) rfl k) ?_
  refine ST.lift (fun _ _ k => T_aload_n (v := .ref f) d_Fi_square_35 rfl (Or.inr ⟨_, rfl⟩) k) ?_
  refine ST.lift (fun _ _ k => T_bipush (v := nI 7) d_Fi_square_36 (by decide) k) ?_
  refine S_laload d_Fi_square_38 a_f (vp_in_nI (by omega) (by omega)) (fun z8 => ?_)
  refine ST.lift (fun _ _ k => T_lstore (L' := [(17, .long z8), (15, .long z7), (13, .long z6), (11, .long z5), (9, .long z4), (7, .long z3), (5, .long z2), (3, .long z1), (0, .ref to), (1, .ref f), (2, .int (nI rounds))]) d_Fi_square_39 (by decide) rfl k) ?_
  refine ST.lift (fun _ _ k => T_aload_n (v := .ref f) d_Fi_square_41 rfl (Or.inr ⟨_, rfl⟩) k) ?_
  refine ST.lift (fun _ _ k => T_bipush (v := nI 8) d_Fi_square_42 (by decide) k) ?_
  refine S_laload d_Fi_square_44 a_f (vp_in_nI (by omega) (by omega)) (fun z9 => ?_)
  refine ST.lift (fun _ _ k => T_lstore (L' := [(19, .long z9), (17, .long z8), (15, .long z7), (13, .long z6), (11, .long z5), (9, .long z4), (7, .long z3), (5, .long z2), (3, .long z1), (0, .ref to), (1, .ref f), (2, .int (nI rounds))]) d_Fi_square_45 (by decide) rfl k) ?_
  refine ST.lift (fun _ _ k => T_aload_n (v := .ref f) d_Fi_square_47 rfl (Or.inr ⟨_, rfl⟩) k) ?_
  refine ST.lift (fun _ _ k => T_bipush (v := nI 9) d_Fi_square_48 (by decide) k) ?_
  refine S_laload d_Fi_square_50 a_f (vp_in_nI (by omega) (by omega)) (fun z10 => ?_)
  refine ST.lift (fun _ _ k => T_lstore (L' := [(21, .long z10), (19, .long z9), (17, .long z8), (15, .long z7), (13, .long z6), (11, .long z5), (9, .long z4), (7, .long z3), (5, .long z2), (3, .long z1), (0, .ref to), (1, .ref f), (2, .int (nI rounds))]) d_Fi_square_51 (by decide) rfl k) ?_
  refine ST.lift (fun _ _ k => T_iconst (v := nI 0) d_Fi_square_53 (by decide) k) ?_
  refine ST.lift (fun _ _ k => T_istore (L' := [(23, .int (nI 0)), (21, .long z10), (19, .long z9), (17, .long z8), (15, .long z7), (13, .long z6), (11, .long z5), (9, .long z4), (7, .long z3), (5, .long z2), (3, .long z1), (0, .ref to), (1, .ref f), (2, .int (nI rounds))]) d_Fi_square_54 (by decide) rfl k) ?_
  have lp24 : ∀ (n22 k11 : Nat) (z12 : Int64) (z13 : Int64) (z14 : Int64) (z15 : Int64) (z16 : Int64) (z17 : Int64) (z18 : Int64) (z19 : Int64) (z20 : Int64) (z21 : Int64), rounds - k11 = n22 → 0 ≤ k11 ∧ k11 ≤ 0 + rounds → ST G mi_Fi_square 56 [(23, .int (nI k11)), (21, .long z12), (19, .long z13), (17, .long z14), (15, .long z15), (13, .long z16), (11, .long z17), (9, .long z18), (7, .long z19), (5, .long z20), (3, .long z21), (0, .ref to), (1, .ref f), (2, .int (nI rounds))] [] v 0 0 Q := by
    intro n22
    induction n22 using Nat.strongRecOn with
    | _ n22 ih23 =>
      intro k11 z12 z13 z14 z15 z16 z17 z18 z19 z20 z21 h25 h26
      refine ST.lift (fun _ _ k => T_iload d_Fi_square_56 rfl k) ?_
      refine ST.lift (fun _ _ k => T_iload_n d_Fi_square_58 rfl k) ?_
      refine S_icmp_geN d_Fi_square_59 rfl (by omega) (by omega) (fun c27 => ?_) (fun c27 => ?_)
      · refine ST.lift (fun _ _ k => T_aload_n (v := .ref to) d_Fi_square_702 rfl (Or.inr ⟨_, rfl⟩) k) ?_
        refine ST.lift (fun _ _ k => T_iconst (v := nI 0) d_Fi_square_703 (by decide) k) ?_
        refine ST.lift (fun _ _ k => T_lload_n d_Fi_square_704 rfl k) ?_
        refine S_lastore d_Fi_square_705 w_to a_to (vp_in_nI (by omega) (by omega)) ?_
        refine ST.lift (fun _ _ k => T_aload_n (v := .ref to) d_Fi_square_706 rfl (Or.inr ⟨_, rfl⟩) k) ?_
        refine ST.lift (fun _ _ k => T_iconst (v := nI 1) d_Fi_square_707 (by decide) k) ?_
        refine ST.lift (fun _ _ k => T_lload d_Fi_square_708 rfl k) ?_
        refine S_lastore d_Fi_square_710 w_to a_to (vp_in_nI (by omega) (by omega)) ?_
        refine ST.lift (fun _ _ k => T_aload_n (v := .ref to) d_Fi_square_711 rfl (Or.inr ⟨_, rfl⟩) k) ?_
        refine ST.lift (fun _ _ k => T_iconst (v := nI 2) d_Fi_square_712 (by decide) k) ?_
        refine ST.lift (fun _ _ k => T_lload d_Fi_square_713 rfl k) ?_
        refine S_lastore d_Fi_square_715 w_to a_to (vp_in_nI (by omega) (by omega)) ?_
        refine ST.lift (fun _ _ k => T_aload_n (v := .ref to) d_Fi_square_716 rfl (Or.inr ⟨_, rfl⟩) k) ?_
        refine ST.lift (fun _ _ k => T_iconst (v := nI 3) d_Fi_square_717 (by decide) k) ?_
        refine ST.lift (fun _ _ k => T_lload d_Fi_square_718 rfl k) ?_
        refine S_lastore d_Fi_square_720 w_to a_to (vp_in_nI (by omega) (by omega)) ?_
        refine ST.lift (fun _ _ k => T_aload_n (v := .ref to) d_Fi_square_721 rfl (Or.inr ⟨_, rfl⟩) k) ?_
        refine ST.lift (fun _ _ k => T_iconst (v := nI 4) d_Fi_square_722 (by decide) k) ?_
        refine ST.lift (fun _ _ k => T_lload d_Fi_square_723 rfl k) ?_
        refine S_lastore d_Fi_square_725 w_to a_to (vp_in_nI (by omega) (by omega)) ?_
        refine ST.lift (fun _ _ k => T_aload_n (v := .ref to) d_Fi_square_726 rfl (Or.inr ⟨_, rfl⟩) k) ?_
        refine ST.lift (fun _ _ k => T_iconst (v := nI 5) d_Fi_square_727 (by decide) k) ?_
        refine ST.lift (fun _ _ k => T_lload d_Fi_square_728 rfl k) ?_
        refine S_lastore d_Fi_square_730 w_to a_to (vp_in_nI (by omega) (by omega)) ?_
        refine ST.lift (fun _ _ k => T_aload_n (v := .ref to) d_Fi_square_731 rfl (Or.inr ⟨_, rfl⟩) k) ?_
        refine ST.lift (fun _ _ k => T_bipush (v := nI 6) d_Fi_square_732 (by decide) k) ?_
        refine ST.lift (fun _ _ k => T_lload d_Fi_square_734 rfl k) ?_
        refine S_lastore d_Fi_square_736 w_to a_to (vp_in_nI (by omega) (by omega)) ?_
        refine ST.lift (fun _ _ k => T_aload_n (v := .ref to) d_Fi_square_737 rfl (Or.inr ⟨_, rfl⟩) k) ?_
        refine ST.lift (fun _ _ k => T_bipush (v := nI 7) d_Fi_square_738 (by decide) k) ?_
        refine ST.lift (fun _ _ k => T_lload d_Fi_square_740 rfl k) ?_
        refine S_lastore d_Fi_square_742 w_to a_to (vp_in_nI (by omega) (by omega)) ?_
        refine ST.lift (fun _ _ k => T_aload_n (v := .ref to) d_Fi_square_743 rfl (Or.inr ⟨_, rfl⟩) k) ?_
        refine ST.lift (fun _ _ k => T_bipush (v := nI 8) d_Fi_square_744 (by decide) k) ?_
        refine ST.lift (fun _ _ k => T_lload d_Fi_square_746 rfl k) ?_
        refine S_lastore d_Fi_square_748 w_to a_to (vp_in_nI (by omega) (by omega)) ?_
        refine ST.lift (fun _ _ k => T_aload_n (v := .ref to) d_Fi_square_749 rfl (Or.inr ⟨_, rfl⟩) k) ?_
        refine ST.lift (fun _ _ k => T_bipush (v := nI 9) d_Fi_square_750 (by decide) k) ?_
        refine ST.lift (fun _ _ k => T_lload d_Fi_square_752 rfl k) ?_
        refine S_lastore d_Fi_square_754 w_to a_to (vp_in_nI (by omega) (by omega)) ?_
        exact S_vret d_Fi_square_755 rfl (by decide) (by decide) hQ
      · refine ST.lift (fun _ _ k => T_ldc2 d_Fi_square_62 kJ_Fi_33 k) ?_
        refine ST.lift (fun _ _ k => T_lload_n d_Fi_square_65 rfl k) ?_
        refine ST.lift (fun _ _ k => T_lmul d_Fi_square_66 k) (S_anyl fun z175 => ?_)
        refine ST.lift (fun _ _ k => T_lstore (L' := [(24, .long z175), (23, .int (nI k11)), (21, .long z12), (19, .long z13), (17, .long z14), (15, .long z15), (13, .long z16), (11, .long z17), (9, .long z18), (7, .long z19), (5, .long z20), (3, .long z21), (0, .ref to), (1, .ref f), (2, .int (nI rounds))]) d_Fi_square_67 (by decide) rfl k) ?_
        refine ST.lift (fun _ _ k => T_ldc2 d_Fi_square_69 kJ_Fi_33 k) ?_
        refine ST.lift (fun _ _ k => T_lload d_Fi_square_72 rfl k) ?_
        refine ST.lift (fun _ _ k => T_lmul d_Fi_square_74 k) (S_anyl fun z176 => ?_)
        refine ST.lift (fun _ _ k => T_lstore (L' := [(26, .long z176), (24, .long z175), (23, .int (nI k11)), (21, .long z12), (19, .long z13), (17, .long z14), (15, .long z15), (13, .long z16), (11, .long z17), (9, .long z18), (7, .long z19), (5, .long z20), (3, .long z21), (0, .ref to), (1, .ref f), (2, .int (nI rounds))]) d_Fi_square_75 (by decide) rfl k) ?_
        refine ST.lift (fun _ _ k => T_ldc2 d_Fi_square_77 kJ_Fi_33 k) ?_
        refine ST.lift (fun _ _ k => T_lload d_Fi_square_80 rfl k) ?_
        refine ST.lift (fun _ _ k => T_lmul d_Fi_square_82 k) (S_anyl fun z177 => ?_)
        refine ST.lift (fun _ _ k => T_lstore (L' := [(28, .long z177), (26, .long z176), (24, .long z175), (23, .int (nI k11)), (21, .long z12), (19, .long z13), (17, .long z14), (15, .long z15), (13, .long z16), (11, .long z17), (9, .long z18), (7, .long z19), (5, .long z20), (3, .long z21), (0, .ref to), (1, .ref f), (2, .int (nI rounds))]) d_Fi_square_83 (by decide) rfl k) ?_
        refine ST.lift (fun _ _ k => T_ldc2 d_Fi_square_85 kJ_Fi_33 k) ?_
        refine ST.lift (fun _ _ k => T_lload d_Fi_square_88 rfl k) ?_
        refine ST.lift (fun _ _ k => T_lmul d_Fi_square_90 k) (S_anyl fun z178 => ?_)
        refine ST.lift (fun _ _ k => T_lstore (L' := [(30, .long z178), (28, .long z177), (26, .long z176), (24, .long z175), (23, .int (nI k11)), (21, .long z12), (19, .long z13), (17, .long z14), (15, .long z15), (13, .long z16), (11, .long z17), (9, .long z18), (7, .long z19), (5, .long z20), (3, .long z21), (0, .ref to), (1, .ref f), (2, .int (nI rounds))]) d_Fi_square_91 (by decide) rfl k) ?_
        refine ST.lift (fun _ _ k => T_ldc2 d_Fi_square_93 kJ_Fi_33 k) ?_
        refine ST.lift (fun _ _ k => T_lload d_Fi_square_96 rfl k) ?_
        refine ST.lift (fun _ _ k => T_lmul d_Fi_square_98 k) (S_anyl fun z179 => ?_)
        refine ST.lift (fun _ _ k => T_lstore (L' := [(32, .long z179), (30, .long z178), (28, .long z177), (26, .long z176), (24, .long z175), (23, .int (nI k11)), (21, .long z12), (19, .long z13), (17, .long z14), (15, .long z15), (13, .long z16), (11, .long z17), (9, .long z18), (7, .long z19), (5, .long z20), (3, .long z21), (0, .ref to), (1, .ref f), (2, .int (nI rounds))]) d_Fi_square_99 (by decide) rfl k) ?_
        refine ST.lift (fun _ _ k => T_ldc2 d_Fi_square_101 kJ_Fi_33 k) ?_
        refine ST.lift (fun _ _ k => T_lload d_Fi_square_104 rfl k) ?_
        refine ST.lift (fun _ _ k => T_lmul d_Fi_square_106 k) (S_anyl fun z180 => ?_)
        refine ST.lift (fun _ _ k => T_lstore (L' := [(34, .long z180), (32, .long z179), (30, .long z178), (28, .long z177), (26, .long z176), (24, .long z175), (23, .int (nI k11)), (21, .long z12), (19, .long z13), (17, .long z14), (15, .long z15), (13, .long z16), (11, .long z17), (9, .long z18), (7, .long z19), (5, .long z20), (3, .long z21), (0, .ref to), (1, .ref f), (2, .int (nI rounds))]) d_Fi_square_107 (by decide) rfl k) ?_
        refine ST.lift (fun _ _ k => T_ldc2 d_Fi_square_109 kJ_Fi_33 k) ?_
        refine ST.lift (fun _ _ k => T_lload d_Fi_square_112 rfl k) ?_
        refine ST.lift (fun _ _ k => T_lmul d_Fi_square_114 k) (S_anyl fun z181 => ?_)
        refine ST.lift (fun _ _ k => T_lstore (L' := [(36, .long z181), (34, .long z180), (32, .long z179), (30, .long z178), (28, .long z177), (26, .long z176), (24, .long z175), (23, .int (nI k11)), (21, .long z12), (19, .long z13), (17, .long z14), (15, .long z15), (13, .long z16), (11, .long z17), (9, .long z18), (7, .long z19), (5, .long z20), (3, .long z21), (0, .ref to), (1, .ref f), (2, .int (nI rounds))]) d_Fi_square_115 (by decide) rfl k) ?_
        refine ST.lift (fun _ _ k => T_ldc2 d_Fi_square_117 kJ_Fi_33 k) ?_
        refine ST.lift (fun _ _ k => T_lload d_Fi_square_120 rfl k) ?_
        refine ST.lift (fun _ _ k => T_lmul d_Fi_square_122 k) (S_anyl fun z182 => ?_)
        refine ST.lift (fun _ _ k => T_lstore (L' := [(38, .long z182), (36, .long z181), (34, .long z180), (32, .long z179), (30, .long z178), (28, .long z177), (26, .long z176), (24, .long z175), (23, .int (nI k11)), (21, .long z12), (19, .long z13), (17, .long z14), (15, .long z15), (13, .long z16), (11, .long z17), (9, .long z18), (7, .long z19), (5, .long z20), (3, .long z21), (0, .ref to), (1, .ref f), (2, .int (nI rounds))]) d_Fi_square_123 (by decide) rfl k) ?_
        refine ST.lift (fun _ _ k => T_ldc2 d_Fi_square_125 kJ_Fi_39 k) ?_
        refine ST.lift (fun _ _ k => T_lload d_Fi_square_128 rfl k) ?_
        refine ST.lift (fun _ _ k => T_lmul d_Fi_square_130 k) (S_anyl fun z183 => ?_)
        refine ST.lift (fun _ _ k => T_lstore (L' := [(40, .long z183), (38, .long z182), (36, .long z181), (34, .long z180), (32, .long z179), (30, .long z178), (28, .long z177), (26, .long z176), (24, .long z175), (23, .int (nI k11)), (21, .long z12), (19, .long z13), (17, .long z14), (15, .long z15), (13, .long z16), (11, .long z17), (9, .long z18), (7, .long z19), (5, .long z20), (3, .long z21), (0, .ref to), (1, .ref f), (2, .int (nI rounds))]) d_Fi_square_131 (by decide) rfl k) ?_
        refine ST.lift (fun _ _ k => T_ldc2 d_Fi_square_133 kJ_Fi_31 k) ?_
        refine ST.lift (fun _ _ k => T_lload d_Fi_square_136 rfl k) ?_
        refine ST.lift (fun _ _ k => T_lmul d_Fi_square_138 k) (S_anyl fun z184 => ?_)
        refine ST.lift (fun _ _ k => T_lstore (L' := [(42, .long z184), (40, .long z183), (38, .long z182), (36, .long z181), (34, .long z180), (32, .long z179), (30, .long z178), (28, .long z177), (26, .long z176), (24, .long z175), (23, .int (nI k11)), (21, .long z12), (19, .long z13), (17, .long z14), (15, .long z15), (13, .long z16), (11, .long z17), (9, .long z18), (7, .long z19), (5, .long z20), (3, .long z21), (0, .ref to), (1, .ref f), (2, .int (nI rounds))]) d_Fi_square_139 (by decide) rfl k) ?_
        refine ST.lift (fun _ _ k => T_ldc2 d_Fi_square_141 kJ_Fi_39 k) ?_
        refine ST.lift (fun _ _ k => T_lload d_Fi_square_144 rfl k) ?_
        refine ST.lift (fun _ _ k => T_lmul d_Fi_square_146 k) (S_anyl fun z185 => ?_)
        refine ST.lift (fun _ _ k => T_lstore (L' := [(44, .long z185), (42, .long z184), (40, .long z183), (38, .long z182), (36, .long z181), (34, .long z180), (32, .long z179), (30, .long z178), (28, .long z177), (26, .long z176), (24, .long z175), (23, .int (nI k11)), (21, .long z12), (19, .long z13), (17, .long z14), (15, .long z15), (13, .long z16), (11, .long z17), (9, .long z18), (7, .long z19), (5, .long z20), (3, .long z21), (0, .ref to), (1, .ref f), (2, .int (nI rounds))]) d_Fi_square_147 (by decide) rfl k) ?_
        refine ST.lift (fun _ _ k => T_ldc2 d_Fi_square_149 kJ_Fi_31 k) ?_
        refine ST.lift (fun _ _ k => T_lload d_Fi_square_152 rfl k) ?_
        refine ST.lift (fun _ _ k => T_lmul d_Fi_square_154 k) (S_anyl fun z186 => ?_)
        refine ST.lift (fun _ _ k => T_lstore (L' := [(46, .long z186), (44, .long z185), (42, .long z184), (40, .long z183), (38, .long z182), (36, .long z181), (34, .long z180), (32, .long z179), (30, .long z178), (28, .long z177), (26, .long z176), (24, .long z175), (23, .int (nI k11)), (21, .long z12), (19, .long z13), (17, .long z14), (15, .long z15), (13, .long z16), (11, .long z17), (9, .long z18), (7, .long z19), (5, .long z20), (3, .long z21), (0, .ref to), (1, .ref f), (2, .int (nI rounds))]) d_Fi_square_155 (by decide) rfl k) ?_
        refine ST.lift (fun _ _ k => T_ldc2 d_Fi_square_157 kJ_Fi_39 k) ?_
        refine ST.lift (fun _ _ k => T_lload d_Fi_square_160 rfl k) ?_
        refine ST.lift (fun _ _ k => T_lmul d_Fi_square_162 k) (S_anyl fun z187 => ?_)
        refine ST.lift (fun _ _ k => T_lstore (L' := [(48, .long z187), (46, .long z186), (44, .long z185), (42, .long z184), (40, .long z183), (38, .long z182), (36, .long z181), (34, .long z180), (32, .long z179), (30, .long z178), (28, .long z177), (26, .long z176), (24, .long z175), (23, .int (nI k11)), (21, .long z12), (19, .long z13), (17, .long z14), (15, .long z15), (13, .long z16), (11, .long z17), (9, .long z18), (7, .long z19), (5, .long z20), (3, .long z21), (0, .ref to), (1, .ref f), (2, .int (nI rounds))]) d_Fi_square_163 (by decide) rfl k) ?_
        refine ST.lift (fun _ _ k => T_lload_n d_Fi_square_165 rfl k) ?_
        refine ST.lift (fun _ _ k => T_lload_n d_Fi_square_166 rfl k) ?_
        refine ST.lift (fun _ _ k => T_lmul d_Fi_square_167 k) (S_anyl fun z188 => ?_)
        refine ST.lift (fun _ _ k => T_lload d_Fi_square_168 rfl k) ?_
        refine ST.lift (fun _ _ k => T_lload d_Fi_square_170 rfl k) ?_
        refine ST.lift (fun _ _ k => T_lmul d_Fi_square_172 k) (S_anyl fun z189 => ?_)
        refine ST.lift (fun _ _ k => T_ladd d_Fi_square_173 k) (S_anyl fun z190 => ?_)
        refine ST.lift (fun _ _ k => T_lload d_Fi_square_174 rfl k) ?_
        refine ST.lift (fun _ _ k => T_lload d_Fi_square_176 rfl k) ?_
        refine ST.lift (fun _ _ k => T_lmul d_Fi_square_178 k) (S_anyl fun z191 => ?_)
        refine ST.lift (fun _ _ k => T_ladd d_Fi_square_179 k) (S_anyl fun z192 => ?_)
        refine ST.lift (fun _ _ k => T_lload d_Fi_square_180 rfl k) ?_
        refine ST.lift (fun _ _ k => T_lload d_Fi_square_182 rfl k) ?_
        refine ST.lift (fun _ _ k => T_lmul d_Fi_square_184 k) (S_anyl fun z193 => ?_)
        refine ST.lift (fun _ _ k => T_ladd d_Fi_square_185 k) (S_anyl fun z194 => ?_)
        refine ST.lift (fun _ _ k => T_lload d_Fi_square_186 rfl k) ?_
        refine ST.lift (fun _ _ k => T_lload d_Fi_square_188 rfl k) ?_
        refine ST.lift (fun _ _ k => T_lmul d_Fi_square_190 k) (S_anyl fun z195 => ?_)
        refine ST.lift (fun _ _ k => T_ladd d_Fi_square_191 k) (S_anyl fun z196 => ?_)
        refine ST.lift (fun _ _ k => T_lload d_Fi_square_192 rfl k) ?_
        refine ST.lift (fun _ _ k => T_lload d_Fi_square_194 rfl k) ?_
        refine ST.lift (fun _ _ k => T_lmul d_Fi_square_196 k) (S_anyl fun z197 => ?_)
        refine ST.lift (fun _ _ k => T_ladd d_Fi_square_197 k) (S_anyl fun z198 => ?_)
        refine ST.lift (fun _ _ k => T_lstore (L' := [(50, .long z198), (48, .long z187), (46, .long z186), (44, .long z185), (42, .long z184), (40, .long z183), (38, .long z182), (36, .long z181), (34, .long z180), (32, .long z179), (30, .long z178), (28, .long z177), (26, .long z176), (24, .long z175), (23, .int (nI k11)), (21, .long z12), (19, .long z13), (17, .long z14), (15, .long z15), (13, .long z16), (11, .long z17), (9, .long z18), (7, .long z19), (5, .long z20), (3, .long z21), (0, .ref to), (1, .ref f), (2, .int (nI rounds))]) d_Fi_square_198 (by decide) rfl k) ?_
        refine ST.lift (fun _ _ k => T_lload d_Fi_square_200 rfl k) ?_
        refine ST.lift (fun _ _ k => T_ldc2 d_Fi_square_202 kJ_Fi_35 k) ?_
        refine ST.lift (fun _ _ k => T_land d_Fi_square_205 k) (S_anyl fun z199 => ?_)
        refine ST.lift (fun _ _ k => T_lstore (L' := [(52, .long z199), (50, .long z198), (48, .long z187), (46, .long z186), (44, .long z185), (42, .long z184), (40, .long z183), (38, .long z182), (36, .long z181), (34, .long z180), (32, .long z179), (30, .long z178), (28, .long z177), (26, .long z176), (24, .long z175), (23, .int (nI k11)), (21, .long z12), (19, .long z13), (17, .long z14), (15, .long z15), (13, .long z16), (11, .long z17), (9, .long z18), (7, .long z19), (5, .long z20), (3, .long z21), (0, .ref to), (1, .ref f), (2, .int (nI rounds))]) d_Fi_square_206 (by decide) rfl k) ?_
        refine ST.lift (fun _ _ k => T_lload d_Fi_square_208 rfl k) ?_
        refine ST.lift (fun _ _ k => T_bipush (v := nI 26) d_Fi_square_210 (by decide) k) ?_
        refine ST.lift (fun _ _ k => T_lshr d_Fi_square_212 k) (S_anyl fun z200 => ?_)
        refine ST.lift (fun _ _ k => T_lload d_Fi_square_213 rfl k) ?_
        refine ST.lift (fun _ _ k => T_lload d_Fi_square_215 rfl k) ?_
        refine ST.lift (fun _ _ k => T_lmul d_Fi_square_217 k) (S_anyl fun z201 => ?_)
        refine ST.lift (fun _ _ k => T_ladd d_Fi_square_218 k) (S_anyl fun z202 => ?_)
        refine ST.lift (fun _ _ k => T_lload d_Fi_square_219 rfl k) ?_
        refine ST.lift (fun _ _ k => T_lload d_Fi_square_221 rfl k) ?_
        refine ST.lift (fun _ _ k => T_lmul d_Fi_square_223 k) (S_anyl fun z203 => ?_)
        refine ST.lift (fun _ _ k => T_ladd d_Fi_square_224 k) (S_anyl fun z204 => ?_)
        refine ST.lift (fun _ _ k => T_lload d_Fi_square_225 rfl k) ?_
        refine ST.lift (fun _ _ k => T_lload d_Fi_square_227 rfl k) ?_
        refine ST.lift (fun _ _ k => T_lmul d_Fi_square_229 k) (S_anyl fun z205 => ?_)
        refine ST.lift (fun _ _ k => T_ladd d_Fi_square_230 k) (S_anyl fun z206 => ?_)
        refine ST.lift (fun _ _ k => T_lload d_Fi_square_231 rfl k) ?_
        refine ST.lift (fun _ _ k => T_lload d_Fi_square_233 rfl k) ?_
        refine ST.lift (fun _ _ k => T_lmul d_Fi_square_235 k) (S_anyl fun z207 => ?_)
        refine ST.lift (fun _ _ k => T_ladd d_Fi_square_236 k) (S_anyl fun z208 => ?_)
        refine ST.lift (fun _ _ k => T_lload d_Fi_square_237 rfl k) ?_
        refine ST.lift (fun _ _ k => T_lload d_Fi_square_239 rfl k) ?_
        refine ST.lift (fun _ _ k => T_lmul d_Fi_square_241 k) (S_anyl fun z209 => ?_)
        refine ST.lift (fun _ _ k => T_ladd d_Fi_square_242 k) (S_anyl fun z210 => ?_)
        refine ST.lift (fun _ _ k => T_lstore (L' := [(50, .long z210), (52, .long z199), (48, .long z187), (46, .long z186), (44, .long z185), (42, .long z184), (40, .long z183), (38, .long z182), (36, .long z181), (34, .long z180), (32, .long z179), (30, .long z178), (28, .long z177), (26, .long z176), (24, .long z175), (23, .int (nI k11)), (21, .long z12), (19, .long z13), (17, .long z14), (15, .long z15), (13, .long z16), (11, .long z17), (9, .long z18), (7, .long z19), (5, .long z20), (3, .long z21), (0, .ref to), (1, .ref f), (2, .int (nI rounds))]) d_Fi_square_243 (by decide) rfl k) ?_
        refine ST.lift (fun _ _ k => T_lload d_Fi_square_245 rfl k) ?_
        refine ST.lift (fun _ _ k => T_ldc2 d_Fi_square_247 kJ_Fi_37 k) ?_
        refine ST.lift (fun _ _ k => T_land d_Fi_square_250 k) (S_anyl fun z211 => ?_)
        refine ST.lift (fun _ _ k => T_lstore (L' := [(54, .long z211), (50, .long z210), (52, .long z199), (48, .long z187), (46, .long z186), (44, .long z185), (42, .long z184), (40, .long z183), (38, .long z182), (36, .long z181), (34, .long z180), (32, .long z179), (30, .long z178), (28, .long z177), (26, .long z176), (24, .long z175), (23, .int (nI k11)), (21, .long z12), (19, .long z13), (17, .long z14), (15, .long z15), (13, .long z16), (11, .long z17), (9, .long z18), (7, .long z19), (5, .long z20), (3, .long z21), (0, .ref to), (1, .ref f), (2, .int (nI rounds))]) d_Fi_square_251 (by decide) rfl k) ?_
        refine ST.lift (fun _ _ k => T_lload d_Fi_square_253 rfl k) ?_
        refine ST.lift (fun _ _ k => T_bipush (v := nI 25) d_Fi_square_255 (by decide) k) ?_
        refine ST.lift (fun _ _ k => T_lshr d_Fi_square_257 k) (S_anyl fun z212 => ?_)
        refine ST.lift (fun _ _ k => T_lload d_Fi_square_258 rfl k) ?_
        refine ST.lift (fun _ _ k => T_lload d_Fi_square_260 rfl k) ?_
        refine ST.lift (fun _ _ k => T_lmul d_Fi_square_262 k) (S_anyl fun z213 => ?_)
        refine ST.lift (fun _ _ k => T_ladd d_Fi_square_263 k) (S_anyl fun z214 => ?_)
        refine ST.lift (fun _ _ k => T_lload d_Fi_square_264 rfl k) ?_
        refine ST.lift (fun _ _ k => T_lload d_Fi_square_266 rfl k) ?_
        refine ST.lift (fun _ _ k => T_lmul d_Fi_square_268 k) (S_anyl fun z215 => ?_)
        refine ST.lift (fun _ _ k => T_ladd d_Fi_square_269 k) (S_anyl fun z216 => ?_)
        refine ST.lift (fun _ _ k => T_lload d_Fi_square_270 rfl k) ?_
        refine ST.lift (fun _ _ k => T_lload d_Fi_square_272 rfl k) ?_
        refine ST.lift (fun _ _ k => T_lmul d_Fi_square_274 k) (S_anyl fun z217 => ?_)
        refine ST.lift (fun _ _ k => T_ladd d_Fi_square_275 k) (S_anyl fun z218 => ?_)
        refine ST.lift (fun _ _ k => T_lload d_Fi_square_276 rfl k) ?_
        refine ST.lift (fun _ _ k => T_lload d_Fi_square_278 rfl k) ?_
        refine ST.lift (fun _ _ k => T_lmul d_Fi_square_280 k) (S_anyl fun z219 => ?_)
        refine ST.lift (fun _ _ k => T_ladd d_Fi_square_281 k) (S_anyl fun z220 => ?_)
        refine ST.lift (fun _ _ k => T_lload d_Fi_square_282 rfl k) ?_
        refine ST.lift (fun _ _ k => T_lload d_Fi_square_284 rfl k) ?_
        refine ST.lift (fun _ _ k => T_lmul d_Fi_square_286 k) (S_anyl fun z221 => ?_)
        refine ST.lift (fun _ _ k => T_ladd d_Fi_square_287 k) (S_anyl fun z222 => ?_)
        refine ST.lift (fun _ _ k => T_lload d_Fi_square_288 rfl k) ?_
        refine ST.lift (fun _ _ k => T_lload d_Fi_square_290 rfl k) ?_
        refine ST.lift (fun _ _ k => T_lmul d_Fi_square_292 k) (S_anyl fun z223 => ?_)
        refine ST.lift (fun _ _ k => T_ladd d_Fi_square_293 k) (S_anyl fun z224 => ?_)
        refine ST.lift (fun _ _ k => T_lstore (L' := [(50, .long z224), (54, .long z211), (52, .long z199), (48, .long z187), (46, .long z186), (44, .long z185), (42, .long z184), (40, .long z183), (38, .long z182), (36, .long z181), (34, .long z180), (32, .long z179), (30, .long z178), (28, .long z177), (26, .long z176), (24, .long z175), (23, .int (nI k11)), (21, .long z12), (19, .long z13), (17, .long z14), (15, .long z15), (13, .long z16), (11, .long z17), (9, .long z18), (7, .long z19), (5, .long z20), (3, .long z21), (0, .ref to), (1, .ref f), (2, .int (nI rounds))]) d_Fi_square_294 (by decide) rfl k) ?_
        refine ST.lift (fun _ _ k => T_lload d_Fi_square_296 rfl k) ?_
        refine ST.lift (fun _ _ k => T_ldc2 d_Fi_square_298 kJ_Fi_35 k) ?_
        refine ST.lift (fun _ _ k => T_land d_Fi_square_301 k) (S_anyl fun z225 => ?_)
        refine ST.lift (fun _ _ k => T_lstore (L' := [(56, .long z225), (50, .long z224), (54, .long z211), (52, .long z199), (48, .long z187), (46, .long z186), (44, .long z185), (42, .long z184), (40, .long z183), (38, .long z182), (36, .long z181), (34, .long z180), (32, .long z179), (30, .long z178), (28, .long z177), (26, .long z176), (24, .long z175), (23, .int (nI k11)), (21, .long z12), (19, .long z13), (17, .long z14), (15, .long z15), (13, .long z16), (11, .long z17), (9, .long z18), (7, .long z19), (5, .long z20), (3, .long z21), (0, .ref to), (1, .ref f), (2, .int (nI rounds))]) d_Fi_square_302 (by decide) rfl k) ?_
        refine ST.lift (fun _ _ k => T_lload d_Fi_square_304 rfl k) ?_
        refine ST.lift (fun _ _ k => T_bipush (v := nI 26) d_Fi_square_306 (by decide) k) ?_
        refine ST.lift (fun _ _ k => T_lshr d_Fi_square_308 k) (S_anyl fun z226 => ?_)
        refine ST.lift (fun _ _ k => T_lload d_Fi_square_309 rfl k) ?_
        refine ST.lift (fun _ _ k => T_lload d_Fi_square_311 rfl k) ?_
        refine ST.lift (fun _ _ k => T_lmul d_Fi_square_313 k) (S_anyl fun z227 => ?_)
        refine ST.lift (fun _ _ k => T_ladd d_Fi_square_314 k) (S_anyl fun z228 => ?_)
        refine ST.lift (fun _ _ k => T_lload d_Fi_square_315 rfl k) ?_
        refine ST.lift (fun _ _ k => T_lload d_Fi_square_317 rfl k) ?_
        refine ST.lift (fun _ _ k => T_lmul d_Fi_square_319 k) (S_anyl fun z229 => ?_)
        refine ST.lift (fun _ _ k => T_ladd d_Fi_square_320 k) (S_anyl fun z230 => ?_)
        refine ST.lift (fun _ _ k => T_lload d_Fi_square_321 rfl k) ?_
        refine ST.lift (fun _ _ k => T_lload d_Fi_square_323 rfl k) ?_
        refine ST.lift (fun _ _ k => T_lmul d_Fi_square_325 k) (S_anyl fun z231 => ?_)
        refine ST.lift (fun _ _ k => T_ladd d_Fi_square_326 k) (S_anyl fun z232 => ?_)
        refine ST.lift (fun _ _ k => T_lload d_Fi_square_327 rfl k) ?_
        refine ST.lift (fun _ _ k => T_lload d_Fi_square_329 rfl k) ?_
        refine ST.lift (fun _ _ k => T_lmul d_Fi_square_331 k) (S_anyl fun z233 => ?_)
        refine ST.lift (fun _ _ k => T_ladd d_Fi_square_332 k) (S_anyl fun z234 => ?_)
        refine ST.lift (fun _ _ k => T_lload d_Fi_square_333 rfl k) ?_
        refine ST.lift (fun _ _ k => T_lload d_Fi_square_335 rfl k) ?_
        refine ST.lift (fun _ _ k => T_lmul d_Fi_square_337 k) (S_anyl fun z235 => ?_)
        refine ST.lift (fun _ _ k => T_ladd d_Fi_square_338 k) (S_anyl fun z236 => ?_)
        refine ST.lift (fun _ _ k => T_lstore (L' := [(50, .long z236), (56, .long z225), (54, .long z211), (52, .long z199), (48, .long z187), (46, .long z186), (44, .long z185), (42, .long z184), (40, .long z183), (38, .long z182), (36, .long z181), (34, .long z180), (32, .long z179), (30, .long z178), (28, .long z177), (26, .long z176), (24, .long z175), (23, .int (nI k11)), (21, .long z12), (19, .long z13), (17, .long z14), (15, .long z15), (13, .long z16), (11, .long z17), (9, .long z18), (7, .long z19), (5, .long z20), (3, .long z21), (0, .ref to), (1, .ref f), (2, .int (nI rounds))]) d_Fi_square_339 (by decide) rfl k) ?_
        refine ST.lift (fun _ _ k => T_lload d_Fi_square_341 rfl k) ?_
        refine ST.lift (fun _ _ k => T_ldc2 d_Fi_square_343 kJ_Fi_37 k) ?_
        refine ST.lift (fun _ _ k => T_land d_Fi_square_346 k) (S_anyl fun z237 => ?_)
        refine ST.lift (fun _ _ k => T_lstore (L' := [(58, .long z237), (50, .long z236), (56, .long z225), (54, .long z211), (52, .long z199), (48, .long z187), (46, .long z186), (44, .long z185), (42, .long z184), (40, .long z183), (38, .long z182), (36, .long z181), (34, .long z180), (32, .long z179), (30, .long z178), (28, .long z177), (26, .long z176), (24, .long z175), (23, .int (nI k11)), (21, .long z12), (19, .long z13), (17, .long z14), (15, .long z15), (13, .long z16), (11, .long z17), (9, .long z18), (7, .long z19), (5, .long z20), (3, .long z21), (0, .ref to), (1, .ref f), (2, .int (nI rounds))]) d_Fi_square_347 (by decide) rfl k) ?_
        refine ST.lift (fun _ _ k => T_lload d_Fi_square_349 rfl k) ?_
        refine ST.lift (fun _ _ k => T_bipush (v := nI 25) d_Fi_square_351 (by decide) k) ?_
        refine ST.lift (fun _ _ k => T_lshr d_Fi_square_353 k) (S_anyl fun z238 => ?_)
        refine ST.lift (fun _ _ k => T_lload d_Fi_square_354 rfl k) ?_
        refine ST.lift (fun _ _ k => T_lload d_Fi_square_356 rfl k) ?_
        refine ST.lift (fun _ _ k => T_lmul d_Fi_square_358 k) (S_anyl fun z239 => ?_)
        refine ST.lift (fun _ _ k => T_ladd d_Fi_square_359 k) (S_anyl fun z240 => ?_)
        refine ST.lift (fun _ _ k => T_lload d_Fi_square_360 rfl k) ?_
        refine ST.lift (fun _ _ k => T_lload d_Fi_square_362 rfl k) ?_
        refine ST.lift (fun _ _ k => T_lmul d_Fi_square_364 k) (S_anyl fun z241 => ?_)
        refine ST.lift (fun _ _ k => T_ladd d_Fi_square_365 k) (S_anyl fun z242 => ?_)
        refine ST.lift (fun _ _ k => T_lload d_Fi_square_366 rfl k) ?_
        refine ST.lift (fun _ _ k => T_lload d_Fi_square_368 rfl k) ?_
        refine ST.lift (fun _ _ k => T_lmul d_Fi_square_370 k) (S_anyl fun z243 => ?_)
        refine ST.lift (fun _ _ k => T_ladd d_Fi_square_371 k) (S_anyl fun z244 => ?_)
        refine ST.lift (fun _ _ k => T_lload d_Fi_square_372 rfl k) ?_
        refine ST.lift (fun _ _ k => T_lload d_Fi_square_374 rfl k) ?_
        refine ST.lift (fun _ _ k => T_lmul d_Fi_square_376 k) (S_anyl fun z245 => ?_)
        refine ST.lift (fun _ _ k => T_ladd d_Fi_square_377 k) (S_anyl fun z246 => ?_)
        refine ST.lift (fun _ _ k => T_lload d_Fi_square_378 rfl k) ?_
        refine ST.lift (fun _ _ k => T_lload d_Fi_square_380 rfl k) ?_
        refine ST.lift (fun _ _ k => T_lmul d_Fi_square_382 k) (S_anyl fun z247 => ?_)
        refine ST.lift (fun _ _ k => T_ladd d_Fi_square_383 k) (S_anyl fun z248 => ?_)
        refine ST.lift (fun _ _ k => T_lload d_Fi_square_384 rfl k) ?_
        refine ST.lift (fun _ _ k => T_lload d_Fi_square_386 rfl k) ?_
        refine ST.lift (fun _ _ k => T_lmul d_Fi_square_388 k) (S_anyl fun z249 => ?_)
        refine ST.lift (fun _ _ k => T_ladd d_Fi_square_389 k) (S_anyl fun z250 => ?_)
        refine ST.lift (fun _ _ k => T_lstore (L' := [(50, .long z250), (58, .long z237), (56, .long z225), (54, .long z211), (52, .long z199), (48, .long z187), (46, .long z186), (44, .long z185), (42, .long z184), (40, .long z183), (38, .long z182), (36, .long z181), (34, .long z180), (32, .long z179), (30, .long z178), (28, .long z177), (26, .long z176), (24, .long z175), (23, .int (nI k11)), (21, .long z12), (19, .long z13), (17, .long z14), (15, .long z15), (13, .long z16), (11, .long z17), (9, .long z18), (7, .long z19), (5, .long z20), (3, .long z21), (0, .ref to), (1, .ref f), (2, .int (nI rounds))]) d_Fi_square_390 (by decide) rfl k) ?_
        refine ST.lift (fun _ _ k => T_lload d_Fi_square_392 rfl k) ?_
        refine ST.lift (fun _ _ k => T_ldc2 d_Fi_square_394 kJ_Fi_35 k) ?_
        refine ST.lift (fun _ _ k => T_land d_Fi_square_397 k) (S_anyl fun z251 => ?_)
        refine ST.lift (fun _ _ k => T_lstore (L' := [(60, .long z251), (50, .long z250), (58, .long z237), (56, .long z225), (54, .long z211), (52, .long z199), (48, .long z187), (46, .long z186), (44, .long z185), (42, .long z184), (40, .long z183), (38, .long z182), (36, .long z181), (34, .long z180), (32, .long z179), (30, .long z178), (28, .long z177), (26, .long z176), (24, .long z175), (23, .int (nI k11)), (21, .long z12), (19, .long z13), (17, .long z14), (15, .long z15), (13, .long z16), (11, .long z17), (9, .long z18), (7, .long z19), (5, .long z20), (3, .long z21), (0, .ref to), (1, .ref f), (2, .int (nI rounds))]) d_Fi_square_398 (by decide) rfl k) ?_
        refine ST.lift (fun _ _ k => T_lload d_Fi_square_400 rfl k) ?_
        refine ST.lift (fun _ _ k => T_bipush (v := nI 26) d_Fi_square_402 (by decide) k) ?_
        refine ST.lift (fun _ _ k => T_lshr d_Fi_square_404 k) (S_anyl fun z252 => ?_)
        refine ST.lift (fun _ _ k => T_lload d_Fi_square_405 rfl k) ?_
        refine ST.lift (fun _ _ k => T_lload d_Fi_square_407 rfl k) ?_
        refine ST.lift (fun _ _ k => T_lmul d_Fi_square_409 k) (S_anyl fun z253 => ?_)
        refine ST.lift (fun _ _ k => T_ladd d_Fi_square_410 k) (S_anyl fun z254 => ?_)
        refine ST.lift (fun _ _ k => T_lload d_Fi_square_411 rfl k) ?_
        refine ST.lift (fun _ _ k => T_lload d_Fi_square_413 rfl k) ?_
        refine ST.lift (fun _ _ k => T_lmul d_Fi_square_415 k) (S_anyl fun z255 => ?_)
        refine ST.lift (fun _ _ k => T_ladd d_Fi_square_416 k) (S_anyl fun z256 => ?_)
        refine ST.lift (fun _ _ k => T_lload d_Fi_square_417 rfl k) ?_
        refine ST.lift (fun _ _ k => T_lload d_Fi_square_419 rfl k) ?_
        refine ST.lift (fun _ _ k => T_lmul d_Fi_square_421 k) (S_anyl fun z257 => ?_)
        refine ST.lift (fun _ _ k => T_ladd d_Fi_square_422 k) (S_anyl fun z258 => ?_)
        refine ST.lift (fun _ _ k => T_lload d_Fi_square_423 rfl k) ?_
        refine ST.lift (fun _ _ k => T_lload d_Fi_square_425 rfl k) ?_
        refine ST.lift (fun _ _ k => T_lmul d_Fi_square_427 k) (S_anyl fun z259 => ?_)
        refine ST.lift (fun _ _ k => T_ladd d_Fi_square_428 k) (S_anyl fun z260 => ?_)
        refine ST.lift (fun _ _ k => T_lload d_Fi_square_429 rfl k) ?_
        refine ST.lift (fun _ _ k => T_lload d_Fi_square_431 rfl k) ?_
        refine ST.lift (fun _ _ k => T_lmul d_Fi_square_433 k) (S_anyl fun z261 => ?_)
        refine ST.lift (fun _ _ k => T_ladd d_Fi_square_434 k) (S_anyl fun z262 => ?_)
        refine ST.lift (fun _ _ k => T_lstore (L' := [(50, .long z262), (60, .long z251), (58, .long z237), (56, .long z225), (54, .long z211), (52, .long z199), (48, .long z187), (46, .long z186), (44, .long z185), (42, .long z184), (40, .long z183), (38, .long z182), (36, .long z181), (34, .long z180), (32, .long z179), (30, .long z178), (28, .long z177), (26, .long z176), (24, .long z175), (23, .int (nI k11)), (21, .long z12), (19, .long z13), (17, .long z14), (15, .long z15), (13, .long z16), (11, .long z17), (9, .long z18), (7, .long z19), (5, .long z20), (3, .long z21), (0, .ref to), (1, .ref f), (2, .int (nI rounds))]) d_Fi_square_435 (by decide) rfl k) ?_
        refine ST.lift (fun _ _ k => T_lload d_Fi_square_437 rfl k) ?_
        refine ST.lift (fun _ _ k => T_ldc2 d_Fi_square_439 kJ_Fi_37 k) ?_
        refine ST.lift (fun _ _ k => T_land d_Fi_square_442 k) (S_anyl fun z263 => ?_)
        refine ST.lift (fun _ _ k => T_lstore (L' := [(62, .long z263), (50, .long z262), (60, .long z251), (58, .long z237), (56, .long z225), (54, .long z211), (52, .long z199), (48, .long z187), (46, .long z186), (44, .long z185), (42, .long z184), (40, .long z183), (38, .long z182), (36, .long z181), (34, .long z180), (32, .long z179), (30, .long z178), (28, .long z177), (26, .long z176), (24, .long z175), (23, .int (nI k11)), (21, .long z12), (19, .long z13), (17, .long z14), (15, .long z15), (13, .long z16), (11, .long z17), (9, .long z18), (7, .long z19), (5, .long z20), (3, .long z21), (0, .ref to), (1, .ref f), (2, .int (nI rounds))]) d_Fi_square_443 (by decide) rfl k) ?_
        refine ST.lift (fun _ _ k => T_lload d_Fi_square_445 rfl k) ?_
        refine ST.lift (fun _ _ k => T_bipush (v := nI 25) d_Fi_square_447 (by decide) k) ?_
        refine ST.lift (fun _ _ k => T_lshr d_Fi_square_449 k) (S_anyl fun z264 => ?_)
        refine ST.lift (fun _ _ k => T_lload d_Fi_square_450 rfl k) ?_
        refine ST.lift (fun _ _ k => T_lload d_Fi_square_452 rfl k) ?_
        refine ST.lift (fun _ _ k => T_lmul d_Fi_square_454 k) (S_anyl fun z265 => ?_)
        refine ST.lift (fun _ _ k => T_ladd d_Fi_square_455 k) (S_anyl fun z266 => ?_)
        refine ST.lift (fun _ _ k => T_lload d_Fi_square_456 rfl k) ?_
        refine ST.lift (fun _ _ k => T_lload d_Fi_square_458 rfl k) ?_
        refine ST.lift (fun _ _ k => T_lmul d_Fi_square_460 k) (S_anyl fun z267 => ?_)
        refine ST.lift (fun _ _ k => T_ladd d_Fi_square_461 k) (S_anyl fun z268 => ?_)
        refine ST.lift (fun _ _ k => T_lload d_Fi_square_462 rfl k) ?_
        refine ST.lift (fun _ _ k => T_lload d_Fi_square_464 rfl k) ?_
        refine ST.lift (fun _ _ k => T_lmul d_Fi_square_466 k) (S_anyl fun z269 => ?_)
        refine ST.lift (fun _ _ k => T_ladd d_Fi_square_467 k) (S_anyl fun z270 => ?_)
        refine ST.lift (fun _ _ k => T_lload d_Fi_square_468 rfl k) ?_
        refine ST.lift (fun _ _ k => T_lload d_Fi_square_470 rfl k) ?_
        refine ST.lift (fun _ _ k => T_lmul d_Fi_square_472 k) (S_anyl fun z271 => ?_)
        refine ST.lift (fun _ _ k => T_ladd d_Fi_square_473 k) (S_anyl fun z272 => ?_)
        refine ST.lift (fun _ _ k => T_lload d_Fi_square_474 rfl k) ?_
        refine ST.lift (fun _ _ k => T_lload d_Fi_square_476 rfl k) ?_
        refine ST.lift (fun _ _ k => T_lmul d_Fi_square_478 k) (S_anyl fun z273 => ?_)
        refine ST.lift (fun _ _ k => T_ladd d_Fi_square_479 k) (S_anyl fun z274 => ?_)
        refine ST.lift (fun _ _ k => T_lload d_Fi_square_480 rfl k) ?_
        refine ST.lift (fun _ _ k => T_lload d_Fi_square_482 rfl k) ?_
        refine ST.lift (fun _ _ k => T_lmul d_Fi_square_484 k) (S_anyl fun z275 => ?_)
        refine ST.lift (fun _ _ k => T_ladd d_Fi_square_485 k) (S_anyl fun z276 => ?_)
        refine ST.lift (fun _ _ k => T_lstore (L' := [(50, .long z276), (62, .long z263), (60, .long z251), (58, .long z237), (56, .long z225), (54, .long z211), (52, .long z199), (48, .long z187), (46, .long z186), (44, .long z185), (42, .long z184), (40, .long z183), (38, .long z182), (36, .long z181), (34, .long z180), (32, .long z179), (30, .long z178), (28, .long z177), (26, .long z176), (24, .long z175), (23, .int (nI k11)), (21, .long z12), (19, .long z13), (17, .long z14), (15, .long z15), (13, .long z16), (11, .long z17), (9, .long z18), (7, .long z19), (5, .long z20), (3, .long z21), (0, .ref to), (1, .ref f), (2, .int (nI rounds))]) d_Fi_square_486 (by decide) rfl k) ?_
        refine ST.lift (fun _ _ k => T_lload d_Fi_square_488 rfl k) ?_
        refine ST.lift (fun _ _ k => T_ldc2 d_Fi_square_490 kJ_Fi_35 k) ?_
        refine ST.lift (fun _ _ k => T_land d_Fi_square_493 k) (S_anyl fun z277 => ?_)
        refine ST.lift (fun _ _ k => T_lstore (L' := [(64, .long z277), (50, .long z276), (62, .long z263), (60, .long z251), (58, .long z237), (56, .long z225), (54, .long z211), (52, .long z199), (48, .long z187), (46, .long z186), (44, .long z185), (42, .long z184), (40, .long z183), (38, .long z182), (36, .long z181), (34, .long z180), (32, .long z179), (30, .long z178), (28, .long z177), (26, .long z176), (24, .long z175), (23, .int (nI k11)), (21, .long z12), (19, .long z13), (17, .long z14), (15, .long z15), (13, .long z16), (11, .long z17), (9, .long z18), (7, .long z19), (5, .long z20), (3, .long z21), (0, .ref to), (1, .ref f), (2, .int (nI rounds))]) d_Fi_square_494 (by decide) rfl k) ?_
        refine ST.lift (fun _ _ k => T_lload d_Fi_square_496 rfl k) ?_
        refine ST.lift (fun _ _ k => T_bipush (v := nI 26) d_Fi_square_498 (by decide) k) ?_
        refine ST.lift (fun _ _ k => T_lshr d_Fi_square_500 k) (S_anyl fun z278 => ?_)
        refine ST.lift (fun _ _ k => T_lload d_Fi_square_501 rfl k) ?_
        refine ST.lift (fun _ _ k => T_lload d_Fi_square_503 rfl k) ?_
        refine ST.lift (fun _ _ k => T_lmul d_Fi_square_505 k) (S_anyl fun z279 => ?_)
        refine ST.lift (fun _ _ k => T_ladd d_Fi_square_506 k) (S_anyl fun z280 => ?_)
        refine ST.lift (fun _ _ k => T_lload d_Fi_square_507 rfl k) ?_
        refine ST.lift (fun _ _ k => T_lload d_Fi_square_509 rfl k) ?_
        refine ST.lift (fun _ _ k => T_lmul d_Fi_square_511 k) (S_anyl fun z281 => ?_)
        refine ST.lift (fun _ _ k => T_ladd d_Fi_square_512 k) (S_anyl fun z282 => ?_)
        refine ST.lift (fun _ _ k => T_lload d_Fi_square_513 rfl k) ?_
        refine ST.lift (fun _ _ k => T_lload d_Fi_square_515 rfl k) ?_
        refine ST.lift (fun _ _ k => T_lmul d_Fi_square_517 k) (S_anyl fun z283 => ?_)
        refine ST.lift (fun _ _ k => T_ladd d_Fi_square_518 k) (S_anyl fun z284 => ?_)
        refine ST.lift (fun _ _ k => T_lload d_Fi_square_519 rfl k) ?_
        refine ST.lift (fun _ _ k => T_lload d_Fi_square_521 rfl k) ?_
        refine ST.lift (fun _ _ k => T_lmul d_Fi_square_523 k) (S_anyl fun z285 => ?_)
        refine ST.lift (fun _ _ k => T_ladd d_Fi_square_524 k) (S_anyl fun z286 => ?_)
        refine ST.lift (fun _ _ k => T_lload d_Fi_square_525 rfl k) ?_
        refine ST.lift (fun _ _ k => T_lload d_Fi_square_527 rfl k) ?_
        refine ST.lift (fun _ _ k => T_lmul d_Fi_square_529 k) (S_anyl fun z287 => ?_)
        refine ST.lift (fun _ _ k => T_ladd d_Fi_square_530 k) (S_anyl fun z288 => ?_)
        refine ST.lift (fun _ _ k => T_lstore (L' := [(50, .long z288), (64, .long z277), (62, .long z263), (60, .long z251), (58, .long z237), (56, .long z225), (54, .long z211), (52, .long z199), (48, .long z187), (46, .long z186), (44, .long z185), (42, .long z184), (40, .long z183), (38, .long z182), (36, .long z181), (34, .long z180), (32, .long z179), (30, .long z178), (28, .long z177), (26, .long z176), (24, .long z175), (23, .int (nI k11)), (21, .long z12), (19, .long z13), (17, .long z14), (15, .long z15), (13, .long z16), (11, .long z17), (9, .long z18), (7, .long z19), (5, .long z20), (3, .long z21), (0, .ref to), (1, .ref f), (2, .int (nI rounds))]) d_Fi_square_531 (by decide) rfl k) ?_
        refine ST.lift (fun _ _ k => T_lload d_Fi_square_533 rfl k) ?_
        refine ST.lift (fun _ _ k => T_ldc2 d_Fi_square_535 kJ_Fi_37 k) ?_
        refine ST.lift (fun _ _ k => T_land d_Fi_square_538 k) (S_anyl fun z289 => ?_)
        refine ST.lift (fun _ _ k => T_lstore (L' := [(66, .long z289), (50, .long z288), (64, .long z277), (62, .long z263), (60, .long z251), (58, .long z237), (56, .long z225), (54, .long z211), (52, .long z199), (48, .long z187), (46, .long z186), (44, .long z185), (42, .long z184), (40, .long z183), (38, .long z182), (36, .long z181), (34, .long z180), (32, .long z179), (30, .long z178), (28, .long z177), (26, .long z176), (24, .long z175), (23, .int (nI k11)), (21, .long z12), (19, .long z13), (17, .long z14), (15, .long z15), (13, .long z16), (11, .long z17), (9, .long z18), (7, .long z19), (5, .long z20), (3, .long z21), (0, .ref to), (1, .ref f), (2, .int (nI rounds))]) d_Fi_square_539 (by decide) rfl k) ?_
        refine ST.lift (fun _ _ k => T_lload d_Fi_square_541 rfl k) ?_
        refine ST.lift (fun _ _ k => T_bipush (v := nI 25) d_Fi_square_543 (by decide) k) ?_
        refine ST.lift (fun _ _ k => T_lshr d_Fi_square_545 k) (S_anyl fun z290 => ?_)
        refine ST.lift (fun _ _ k => T_lload d_Fi_square_546 rfl k) ?_
        refine ST.lift (fun _ _ k => T_lload d_Fi_square_548 rfl k) ?_
        refine ST.lift (fun _ _ k => T_lmul d_Fi_square_550 k) (S_anyl fun z291 => ?_)
        refine ST.lift (fun _ _ k => T_ladd d_Fi_square_551 k) (S_anyl fun z292 => ?_)
        refine ST.lift (fun _ _ k => T_lload d_Fi_square_552 rfl k) ?_
        refine ST.lift (fun _ _ k => T_lload d_Fi_square_554 rfl k) ?_
        refine ST.lift (fun _ _ k => T_lmul d_Fi_square_556 k) (S_anyl fun z293 => ?_)
        refine ST.lift (fun _ _ k => T_ladd d_Fi_square_557 k) (S_anyl fun z294 => ?_)
        refine ST.lift (fun _ _ k => T_lload d_Fi_square_558 rfl k) ?_
        refine ST.lift (fun _ _ k => T_lload d_Fi_square_560 rfl k) ?_
        refine ST.lift (fun _ _ k => T_lmul d_Fi_square_562 k) (S_anyl fun z295 => ?_)
        refine ST.lift (fun _ _ k => T_ladd d_Fi_square_563 k) (S_anyl fun z296 => ?_)
        refine ST.lift (fun _ _ k => T_lload d_Fi_square_564 rfl k) ?_
        refine ST.lift (fun _ _ k => T_lload d_Fi_square_566 rfl k) ?_
        refine ST.lift (fun _ _ k => T_lmul d_Fi_square_568 k) (S_anyl fun z297 => ?_)
        refine ST.lift (fun _ _ k => T_ladd d_Fi_square_569 k) (S_anyl fun z298 => ?_)
        refine ST.lift (fun _ _ k => T_lload d_Fi_square_570 rfl k) ?_
        refine ST.lift (fun _ _ k => T_lload d_Fi_square_572 rfl k) ?_
        refine ST.lift (fun _ _ k => T_lmul d_Fi_square_574 k) (S_anyl fun z299 => ?_)
        refine ST.lift (fun _ _ k => T_ladd d_Fi_square_575 k) (S_anyl fun z300 => ?_)
        refine ST.lift (fun _ _ k => T_lload d_Fi_square_576 rfl k) ?_
        refine ST.lift (fun _ _ k => T_lload d_Fi_square_578 rfl k) ?_
        refine ST.lift (fun _ _ k => T_lmul d_Fi_square_580 k) (S_anyl fun z301 => ?_)
        refine ST.lift (fun _ _ k => T_ladd d_Fi_square_581 k) (S_anyl fun z302 => ?_)
        refine ST.lift (fun _ _ k => T_lstore (L' := [(50, .long z302), (66, .long z289), (64, .long z277), (62, .long z263), (60, .long z251), (58, .long z237), (56, .long z225), (54, .long z211), (52, .long z199), (48, .long z187), (46, .long z186), (44, .long z185), (42, .long z184), (40, .long z183), (38, .long z182), (36, .long z181), (34, .long z180), (32, .long z179), (30, .long z178), (28, .long z177), (26, .long z176), (24, .long z175), (23, .int (nI k11)), (21, .long z12), (19, .long z13), (17, .long z14), (15, .long z15), (13, .long z16), (11, .long z17), (9, .long z18), (7, .long z19), (5, .long z20), (3, .long z21), (0, .ref to), (1, .ref f), (2, .int (nI rounds))]) d_Fi_square_582 (by decide) rfl k) ?_
        refine ST.lift (fun _ _ k => T_lload d_Fi_square_584 rfl k) ?_
        refine ST.lift (fun _ _ k => T_ldc2 d_Fi_square_586 kJ_Fi_35 k) ?_
        refine ST.lift (fun _ _ k => T_land d_Fi_square_589 k) (S_anyl fun z303 => ?_)
        refine ST.lift (fun _ _ k => T_lstore (L' := [(68, .long z303), (50, .long z302), (66, .long z289), (64, .long z277), (62, .long z263), (60, .long z251), (58, .long z237), (56, .long z225), (54, .long z211), (52, .long z199), (48, .long z187), (46, .long z186), (44, .long z185), (42, .long z184), (40, .long z183), (38, .long z182), (36, .long z181), (34, .long z180), (32, .long z179), (30, .long z178), (28, .long z177), (26, .long z176), (24, .long z175), (23, .int (nI k11)), (21, .long z12), (19, .long z13), (17, .long z14), (15, .long z15), (13, .long z16), (11, .long z17), (9, .long z18), (7, .long z19), (5, .long z20), (3, .long z21), (0, .ref to), (1, .ref f), (2, .int (nI rounds))]) d_Fi_square_590 (by decide) rfl k) ?_
        refine ST.lift (fun _ _ k => T_lload d_Fi_square_592 rfl k) ?_
        refine ST.lift (fun _ _ k => T_bipush (v := nI 26) d_Fi_square_594 (by decide) k) ?_
        refine ST.lift (fun _ _ k => T_lshr d_Fi_square_596 k) (S_anyl fun z304 => ?_)
        refine ST.lift (fun _ _ k => T_lload d_Fi_square_597 rfl k) ?_
        refine ST.lift (fun _ _ k => T_lload d_Fi_square_599 rfl k) ?_
        refine ST.lift (fun _ _ k => T_lmul d_Fi_square_601 k) (S_anyl fun z305 => ?_)
        refine ST.lift (fun _ _ k => T_ladd d_Fi_square_602 k) (S_anyl fun z306 => ?_)
        refine ST.lift (fun _ _ k => T_lload d_Fi_square_603 rfl k) ?_
        refine ST.lift (fun _ _ k => T_lload d_Fi_square_605 rfl k) ?_
        refine ST.lift (fun _ _ k => T_lmul d_Fi_square_607 k) (S_anyl fun z307 => ?_)
        refine ST.lift (fun _ _ k => T_ladd d_Fi_square_608 k) (S_anyl fun z308 => ?_)
        refine ST.lift (fun _ _ k => T_lload d_Fi_square_609 rfl k) ?_
        refine ST.lift (fun _ _ k => T_lload d_Fi_square_611 rfl k) ?_
        refine ST.lift (fun _ _ k => T_lmul d_Fi_square_613 k) (S_anyl fun z309 => ?_)
        refine ST.lift (fun _ _ k => T_ladd d_Fi_square_614 k) (S_anyl fun z310 => ?_)
        refine ST.lift (fun _ _ k => T_lload d_Fi_square_615 rfl k) ?_
        refine ST.lift (fun _ _ k => T_lload d_Fi_square_617 rfl k) ?_
        refine ST.lift (fun _ _ k => T_lmul d_Fi_square_619 k) (S_anyl fun z311 => ?_)
        refine ST.lift (fun _ _ k => T_ladd d_Fi_square_620 k) (S_anyl fun z312 => ?_)
        refine ST.lift (fun _ _ k => T_lload d_Fi_square_621 rfl k) ?_
        refine ST.lift (fun _ _ k => T_lload d_Fi_square_623 rfl k) ?_
        refine ST.lift (fun _ _ k => T_lmul d_Fi_square_625 k) (S_anyl fun z313 => ?_)
        refine ST.lift (fun _ _ k => T_ladd d_Fi_square_626 k) (S_anyl fun z314 => ?_)
        refine ST.lift (fun _ _ k => T_lstore (L' := [(50, .long z314), (68, .long z303), (66, .long z289), (64, .long z277), (62, .long z263), (60, .long z251), (58, .long z237), (56, .long z225), (54, .long z211), (52, .long z199), (48, .long z187), (46, .long z186), (44, .long z185), (42, .long z184), (40, .long z183), (38, .long z182), (36, .long z181), (34, .long z180), (32, .long z179), (30, .long z178), (28, .long z177), (26, .long z176), (24, .long z175), (23, .int (nI k11)), (21, .long z12), (19, .long z13), (17, .long z14), (15, .long z15), (13, .long z16), (11, .long z17), (9, .long z18), (7, .long z19), (5, .long z20), (3, .long z21), (0, .ref to), (1, .ref f), (2, .int (nI rounds))]) d_Fi_square_627 (by decide) rfl k) ?_
        refine ST.lift (fun _ _ k => T_lload d_Fi_square_629 rfl k) ?_
        refine ST.lift (fun _ _ k => T_ldc2 d_Fi_square_631 kJ_Fi_37 k) ?_
        refine ST.lift (fun _ _ k => T_land d_Fi_square_634 k) (S_anyl fun z315 => ?_)
        refine ST.lift (fun _ _ k => T_lstore (L' := [(21, .long z315), (50, .long z314), (68, .long z303), (66, .long z289), (64, .long z277), (62, .long z263), (60, .long z251), (58, .long z237), (56, .long z225), (54, .long z211), (52, .long z199), (48, .long z187), (46, .long z186), (44, .long z185), (42, .long z184), (40, .long z183), (38, .long z182), (36, .long z181), (34, .long z180), (32, .long z179), (30, .long z178), (28, .long z177), (26, .long z176), (24, .long z175), (23, .int (nI k11)), (19, .long z13), (17, .long z14), (15, .long z15), (13, .long z16), (11, .long z17), (9, .long z18), (7, .long z19), (5, .long z20), (3, .long z21), (0, .ref to), (1, .ref f), (2, .int (nI rounds))]) d_Fi_square_635 (by decide) rfl k) ?_
        refine ST.lift (fun _ _ k => T_lload d_Fi_square_637 rfl k) ?_
        refine ST.lift (fun _ _ k => T_bipush (v := nI 25) d_Fi_square_639 (by decide) k) ?_
        refine ST.lift (fun _ _ k => T_lshr d_Fi_square_641 k) (S_anyl fun z316 => ?_)
        refine ST.lift (fun _ _ k => T_ldc2 d_Fi_square_642 kJ_Fi_31 k) ?_
        refine ST.lift (fun _ _ k => T_lmul d_Fi_square_645 k) (S_anyl fun z317 => ?_)
        refine ST.lift (fun _ _ k => T_lload d_Fi_square_646 rfl k) ?_
        refine ST.lift (fun _ _ k => T_ladd d_Fi_square_648 k) (S_anyl fun z318 => ?_)
        refine ST.lift (fun _ _ k => T_lstore (L' := [(50, .long z318), (21, .long z315), (68, .long z303), (66, .long z289), (64, .long z277), (62, .long z263), (60, .long z251), (58, .long z237), (56, .long z225), (54, .long z211), (52, .long z199), (48, .long z187), (46, .long z186), (44, .long z185), (42, .long z184), (40, .long z183), (38, .long z182), (36, .long z181), (34, .long z180), (32, .long z179), (30, .long z178), (28, .long z177), (26, .long z176), (24, .long z175), (23, .int (nI k11)), (19, .long z13), (17, .long z14), (15, .long z15), (13, .long z16), (11, .long z17), (9, .long z18), (7, .long z19), (5, .long z20), (3, .long z21), (0, .ref to), (1, .ref f), (2, .int (nI rounds))]) d_Fi_square_649 (by decide) rfl k) ?_
        refine ST.lift (fun _ _ k => T_lload d_Fi_square_651 rfl k) ?_
        refine ST.lift (fun _ _ k => T_ldc2 d_Fi_square_653 kJ_Fi_35 k) ?_
        refine ST.lift (fun _ _ k => T_land d_Fi_square_656 k) (S_anyl fun z319 => ?_)
        refine ST.lift (fun _ _ k => T_lstore_n (L' := [(3, .long z319), (50, .long z318), (21, .long z315), (68, .long z303), (66, .long z289), (64, .long z277), (62, .long z263), (60, .long z251), (58, .long z237), (56, .long z225), (54, .long z211), (52, .long z199), (48, .long z187), (46, .long z186), (44, .long z185), (42, .long z184), (40, .long z183), (38, .long z182), (36, .long z181), (34, .long z180), (32, .long z179), (30, .long z178), (28, .long z177), (26, .long z176), (24, .long z175), (23, .int (nI k11)), (19, .long z13), (17, .long z14), (15, .long z15), (13, .long z16), (11, .long z17), (9, .long z18), (7, .long z19), (5, .long z20), (0, .ref to), (1, .ref f), (2, .int (nI rounds))]) d_Fi_square_657 (by decide) rfl k) ?_
        refine ST.lift (fun _ _ k => T_lload d_Fi_square_658 rfl k) ?_
        refine ST.lift (fun _ _ k => T_lload d_Fi_square_660 rfl k) ?_
        refine ST.lift (fun _ _ k => T_bipush (v := nI 26) d_Fi_square_662 (by decide) k) ?_
        refine ST.lift (fun _ _ k => T_lshr d_Fi_square_664 k) (S_anyl fun z320 => ?_)
        refine ST.lift (fun _ _ k => T_ladd d_Fi_square_665 k) (S_anyl fun z321 => ?_)
        refine ST.lift (fun _ _ k => T_lstore (L' := [(5, .long z321), (3, .long z319), (50, .long z318), (21, .long z315), (68, .long z303), (66, .long z289), (64, .long z277), (62, .long z263), (60, .long z251), (58, .long z237), (56, .long z225), (54, .long z211), (52, .long z199), (48, .long z187), (46, .long z186), (44, .long z185), (42, .long z184), (40, .long z183), (38, .long z182), (36, .long z181), (34, .long z180), (32, .long z179), (30, .long z178), (28, .long z177), (26, .long z176), (24, .long z175), (23, .int (nI k11)), (19, .long z13), (17, .long z14), (15, .long z15), (13, .long z16), (11, .long z17), (9, .long z18), (7, .long z19), (0, .ref to), (1, .ref f), (2, .int (nI rounds))]) d_Fi_square_666 (by decide) rfl k) ?_
        refine ST.lift (fun _ _ k => T_lload d_Fi_square_668 rfl k) ?_
        refine ST.lift (fun _ _ k => T_lstore (L' := [(7, .long z225), (5, .long z321), (3, .long z319), (50, .long z318), (21, .long z315), (68, .long z303), (66, .long z289), (64, .long z277), (62, .long z263), (60, .long z251), (58, .long z237), (56, .long z225), (54, .long z211), (52, .long z199), (48, .long z187), (46, .long z186), (44, .long z185), (42, .long z184), (40, .long z183), (38, .long z182), (36, .long z181), (34, .long z180), (32, .long z179), (30, .long z178), (28, .long z177), (26, .long z176), (24, .long z175), (23, .int (nI k11)), (19, .long z13), (17, .long z14), (15, .long z15), (13, .long z16), (11, .long z17), (9, .long z18), (0, .ref to), (1, .ref f), (2, .int (nI rounds))]) d_Fi_square_670 (by decide) rfl k) ?_
        refine ST.lift (fun _ _ k => T_lload d_Fi_square_672 rfl k) ?_
        refine ST.lift (fun _ _ k => T_lstore (L' := [(9, .long z237), (7, .long z225), (5, .long z321), (3, .long z319), (50, .long z318), (21, .long z315), (68, .long z303), (66, .long z289), (64, .long z277), (62, .long z263), (60, .long z251), (58, .long z237), (56, .long z225), (54, .long z211), (52, .long z199), (48, .long z187), (46, .long z186), (44, .long z185), (42, .long z184), (40, .long z183), (38, .long z182), (36, .long z181), (34, .long z180), (32, .long z179), (30, .long z178), (28, .long z177), (26, .long z176), (24, .long z175), (23, .int (nI k11)), (19, .long z13), (17, .long z14), (15, .long z15), (13, .long z16), (11, .long z17), (0, .ref to), (1, .ref f), (2, .int (nI rounds))]) d_Fi_square_674 (by decide) rfl k) ?_
        refine ST.lift (fun _ _ k => T_lload d_Fi_square_676 rfl k) ?_
        refine ST.lift (fun _ _ k => T_lstore (L' := [(11, .long z251), (9, .long z237), (7, .long z225), (5, .long z321), (3, .long z319), (50, .long z318), (21, .long z315), (68, .long z303), (66, .long z289), (64, .long z277), (62, .long z263), (60, .long z251), (58, .long z237), (56, .long z225), (54, .long z211), (52, .long z199), (48, .long z187), (46, .long z186), (44, .long z185), (42, .long z184), (40, .long z183), (38, .long z182), (36, .long z181), (34, .long z180), (32, .long z179), (30, .long z178), (28, .long z177), (26, .long z176), (24, .long z175), (23, .int (nI k11)), (19, .long z13), (17, .long z14), (15, .long z15), (13, .long z16), (0, .ref to), (1, .ref f), (2, .int (nI rounds))]) d_Fi_square_678 (by decide) rfl k) ?_
        refine ST.lift (fun _ _ k => T_lload d_Fi_square_680 rfl k) ?_
        refine ST.lift (fun _ _ k => T_lstore (L' := [(13, .long z263), (11, .long z251), (9, .long z237), (7, .long z225), (5, .long z321), (3, .long z319), (50, .long z318), (21, .long z315), (68, .long z303), (66, .long z289), (64, .long z277), (62, .long z263), (60, .long z251), (58, .long z237), (56, .long z225), (54, .long z211), (52, .long z199), (48, .long z187), (46, .long z186), (44, .long z185), (42, .long z184), (40, .long z183), (38, .long z182), (36, .long z181), (34, .long z180), (32, .long z179), (30, .long z178), (28, .long z177), (26, .long z176), (24, .long z175), (23, .int (nI k11)), (19, .long z13), (17, .long z14), (15, .long z15), (0, .ref to), (1, .ref f), (2, .int (nI rounds))]) d_Fi_square_682 (by decide) rfl k) ?_
        refine ST.lift (fun _ _ k => T_lload d_Fi_square_684 rfl k) ?_
        refine ST.lift (fun _ _ k => T_lstore (L' := [(15, .long z277), (13, .long z263), (11, .long z251), (9, .long z237), (7, .long z225), (5, .long z321), (3, .long z319), (50, .long z318), (21, .long z315), (68, .long z303), (66, .long z289), (64, .long z277), (62, .long z263), (60, .long z251), (58, .long z237), (56, .long z225), (54, .long z211), (52, .long z199), (48, .long z187), (46, .long z186), (44, .long z185), (42, .long z184), (40, .long z183), (38, .long z182), (36, .long z181), (34, .long z180), (32, .long z179), (30, .long z178), (28, .long z177), (26, .long z176), (24, .long z175), (23, .int (nI k11)), (19, .long z13), (17, .long z14), (0, .ref to), (1, .ref f), (2, .int (nI rounds))]) d_Fi_square_686 (by decide) rfl k) ?_
        refine ST.lift (fun _ _ k => T_lload d_Fi_square_688 rfl k) ?_
        refine ST.lift (fun _ _ k => T_lstore (L' := [(17, .long z289), (15, .long z277), (13, .long z263), (11, .long z251), (9, .long z237), (7, .long z225), (5, .long z321), (3, .long z319), (50, .long z318), (21, .long z315), (68, .long z303), (66, .long z289), (64, .long z277), (62, .long z263), (60, .long z251), (58, .long z237), (56, .long z225), (54, .long z211), (52, .long z199), (48, .long z187), (46, .long z186), (44, .long z185), (42, .long z184), (40, .long z183), (38, .long z182), (36, .long z181), (34, .long z180), (32, .long z179), (30, .long z178), (28, .long z177), (26, .long z176), (24, .long z175), (23, .int (nI k11)), (19, .long z13), (0, .ref to), (1, .ref f), (2, .int (nI rounds))]) d_Fi_square_690 (by decide) rfl k) ?_
        refine ST.lift (fun _ _ k => T_lload d_Fi_square_692 rfl k) ?_
        refine ST.lift (fun _ _ k => T_lstore (L' := [(19, .long z303), (17, .long z289), (15, .long z277), (13, .long z263), (11, .long z251), (9, .long z237), (7, .long z225), (5, .long z321), (3, .long z319), (50, .long z318), (21, .long z315), (68, .long z303), (66, .long z289), (64, .long z277), (62, .long z263), (60, .long z251), (58, .long z237), (56, .long z225), (54, .long z211), (52, .long z199), (48, .long z187), (46, .long z186), (44, .long z185), (42, .long z184), (40, .long z183), (38, .long z182), (36, .long z181), (34, .long z180), (32, .long z179), (30, .long z178), (28, .long z177), (26, .long z176), (24, .long z175), (23, .int (nI k11)), (0, .ref to), (1, .ref f), (2, .int (nI rounds))]) d_Fi_square_694 (by decide) rfl k) ?_
        refine S_iincN (a := k11) (b := 1) (L' := [(23, .int (nI (k11 + 1))), (19, .long z303), (17, .long z289), (15, .long z277), (13, .long z263), (11, .long z251), (9, .long z237), (7, .long z225), (5, .long z321), (3, .long z319), (50, .long z318), (21, .long z315), (68, .long z303), (66, .long z289), (64, .long z277), (62, .long z263), (60, .long z251), (58, .long z237), (56, .long z225), (54, .long z211), (52, .long z199), (48, .long z187), (46, .long z186), (44, .long z185), (42, .long z184), (40, .long z183), (38, .long z182), (36, .long z181), (34, .long z180), (32, .long z179), (30, .long z178), (28, .long z177), (26, .long z176), (24, .long z175), (0, .ref to), (1, .ref f), (2, .int (nI rounds))]) d_Fi_square_696 (by decide) rfl rfl rfl ?_
        refine ST.lift (fun _ _ k => T_goto (tgt := 56) d_Fi_square_699 rfl k) ?_
        refine S_pick [0, 11, 1, 2, 3, 4, 5, 6, 7, 8, 9, 34, 35, 36] rfl ?_
        exact ih23 (rounds - (k11 + 1)) (by omega) (k11 + 1) z315 z303 z289 z277 z263 z251 z237 z225 z321 z319 rfl (by omega)
  exact lp24 _ 0 z10 z9 z8 z7 z6 z5 z4 z3 z2 z1 rfl (by omega)

theorem S_iincW {G : GX} {mi : MI} {pc : Nat} {L : List (Nat × Value)} {st : List Value} {v : Nat → Int32} {kc ks : Nat} {Q : Option Value → (Nat → Int32) → Prop} {i a b : Nat} {n : Int} {L' : List (Nat × Value)} (hd : decode (mC mi) pc = .ok (.iinc i n, 6)) (hn : i < mL mi) (hx : lk L i = some (.int (nI a))) (hb : n = (b : Int)) (hl : st1 L i (.int (nI (a + b))) = L') (k : ST G mi (pc + 6) L' st v kc ks Q) : ST G mi pc L st v kc ks Q := by
  subst hb
  intro X M1 hW p e R s m args below meth c H locs ls ad ad0 n0 C D
  obtain ⟨d1, d2, d3, d4, d5, d6, d7⟩ := D
  subst hl
  obtain ⟨q, hq⟩ := List.getElem?_of_mem (List.mem_map.mpr ⟨(i, .int (nI a)), lk_mem hx, rfl⟩ : (i, mV ad (.int (nI a))) ∈ mLo ad L)
  exact lv_iincW C.1 C.2.1 hd d2 hq (by rw [show Int32.ofInt (b : Int) = nI b from rfl, nI_add]) hn (st1_map ad L _ (.int _)) (fun ls' h => k X M1 hW p e R s m args below meth c H locs ls' ad ad0 n0 C ⟨d1, h, d3, d4, d5, st1_ok d6 trivial, d7⟩)
set_option maxRecDepth 100000 in
set_option maxHeartbeats 4000000 in
theorem c_Mo_carries (G : GX) (v : Nat → Int32) (row m : Nat) (w_row : K0 ≤ row) (a_row : aL row m) (l_row : m ≤ 4000) (n : Nat) (b_n : n ≤ m) : CS G mi_Mo_carries [.ref row, .int (nI n)] v (fun r v' => r = none ∧ v' = v) := by
  refine CS.of (by decide) (Nat.le_of_ble_eq_true rfl) ?_
  generalize hQe : (fun (r : Option Value) (v' : Nat → Int32) => r = none ∧ v' = v) = Q
  have hQ : Q none v := by rw [← hQe]; exact ⟨rfl, rfl⟩
  clear hQe
  show ST G mi_Mo_carries 0 [(0, .ref row), (1, .int (nI n))] [] v 0 0 Q
  refine ST.lift (fun _ _ k => T_iconst (v := nI 0) d_Mo_carries_0 (by decide) k) ?_
  refine ST.lift (fun _ _ k => T_istore_n (L' := [(2, .int (nI 0)), (0, .ref row), (1, .int (nI n))]) d_Mo_carries_1 (by decide) rfl k) ?_
  have lp4 : ∀ (n2 k1 : Nat), (n - 1) - k1 = n2 → 0 ≤ k1 ∧ k1 ≤ 0 + (n - 1) → ST G mi_Mo_carries 2 [(2, .int (nI k1)), (0, .ref row), (1, .int (nI n))] [] v 0 0 Q := by
    intro n2
    induction n2 using Nat.strongRecOn with
    | _ n2 ih3 =>
      intro k1 h5 h6
      refine ST.lift (fun _ _ k => T_iload_n d_Mo_carries_2 rfl k) ?_
      refine ST.lift (fun _ _ k => T_iconst (v := nI 1) d_Mo_carries_3 (by decide) k) ?_
      refine S_iaddN d_Mo_carries_4 ?_
      refine ST.lift (fun _ _ k => T_iload_n d_Mo_carries_5 rfl k) ?_
      refine S_icmp_geN d_Mo_carries_6 rfl (by omega) (by omega) (fun c7 => ?_) (fun c7 => ?_)
      · exact S_vret d_Mo_carries_38 rfl (by decide) (by decide) hQ
      · refine ST.lift (fun _ _ k => T_aload_n (v := .ref row) d_Mo_carries_9 rfl (Or.inr ⟨_, rfl⟩) k) ?_
        refine ST.lift (fun _ _ k => T_iload_n d_Mo_carries_10 rfl k) ?_
        refine ST.lift (fun _ _ k => T_iconst (v := nI 1) d_Mo_carries_11 (by decide) k) ?_
        refine S_iaddN d_Mo_carries_12 ?_
        refine ST.lift (fun _ _ k => T_dup2 d_Mo_carries_13 rfl rfl k) ?_
        refine S_laload d_Mo_carries_14 a_row (vp_in_nI (by omega) (by omega)) (fun z8 => ?_)
        refine ST.lift (fun _ _ k => T_aload_n (v := .ref row) d_Mo_carries_15 rfl (Or.inr ⟨_, rfl⟩) k) ?_
        refine ST.lift (fun _ _ k => T_iload_n d_Mo_carries_16 rfl k) ?_
        refine S_laload d_Mo_carries_17 a_row (vp_in_nI (by omega) (by omega)) (fun z9 => ?_)
        refine ST.lift (fun _ _ k => T_bipush (v := nI 16) d_Mo_carries_18 (by decide) k) ?_
        refine ST.lift (fun _ _ k => T_lshr d_Mo_carries_20 k) (S_anyl fun z10 => ?_)
        refine ST.lift (fun _ _ k => T_ladd d_Mo_carries_21 k) (S_anyl fun z11 => ?_)
        refine S_lastore d_Mo_carries_22 w_row a_row (vp_in_nI (by omega) (by omega)) ?_
        refine ST.lift (fun _ _ k => T_aload_n (v := .ref row) d_Mo_carries_23 rfl (Or.inr ⟨_, rfl⟩) k) ?_
        refine ST.lift (fun _ _ k => T_iload_n d_Mo_carries_24 rfl k) ?_
        refine ST.lift (fun _ _ k => T_dup2 d_Mo_carries_25 rfl rfl k) ?_
        refine S_laload d_Mo_carries_26 a_row (vp_in_nI (by omega) (by omega)) (fun z12 => ?_)
        refine ST.lift (fun _ _ k => T_ldc2 d_Mo_carries_27 kJ_Mo_29 k) ?_
        refine ST.lift (fun _ _ k => T_land d_Mo_carries_30 k) (S_anyl fun z13 => ?_)
        refine S_lastore d_Mo_carries_31 w_row a_row (vp_in_nI (by omega) (by omega)) ?_
        refine S_iincN (a := k1) (b := 1) (L' := [(2, .int (nI (k1 + 1))), (0, .ref row), (1, .int (nI n))]) d_Mo_carries_32 (by decide) rfl rfl rfl ?_
        refine ST.lift (fun _ _ k => T_goto (tgt := 2) d_Mo_carries_35 rfl k) ?_
        exact ih3 ((n - 1) - (k1 + 1)) (by omega) (k1 + 1)  rfl (by omega)
  exact lp4 _ 0  rfl (by omega)
set_option maxRecDepth 100000 in
set_option maxHeartbeats 4000000 in
theorem c_Mo_fits (G : GX) (v : Nat → Int32) (n : Int32) (cubed : Nat) (b_cubed : cubed ≤ 1) : CS G mi_Mo_fits [.ref 373, .int n, .int (nI cubed)] v (fun r v' => ∃ z : Nat, z ≤ 1 ∧ r = some (.int (nI z)) ∧ v' = v) := by
  refine CS.of (by decide) (Nat.le_of_ble_eq_true rfl) ?_
  generalize hQe : (fun (r : Option Value) (v' : Nat → Int32) => ∃ z : Nat, z ≤ 1 ∧ r = some (.int (nI z)) ∧ v' = v) = Q
  have hQ : ∀ z : Nat, z ≤ 1 → Q (some (.int (nI z))) v := by rw [← hQe]; exact fun z hz => ⟨z, hz, rfl, rfl⟩
  clear hQe
  show ST G mi_Mo_fits 0 [(0, .ref 373), (1, .int n), (2, .int (nI cubed))] [] v 0 0 Q
  refine ST.lift (fun _ _ k => T_iconst (v := nI 0) d_Mo_fits_0 (by decide) k) ?_
  refine ST.lift (fun _ _ k => T_istore_n (L' := [(3, .int (nI 0)), (0, .ref 373), (1, .int n), (2, .int (nI cubed))]) d_Mo_fits_1 (by decide) rfl k) ?_
  refine ST.lift (fun _ _ k => T_iload_n d_Mo_fits_2 rfl k) ?_
  refine ST.lift (fun _ _ k => T_bipush (v := nI 12) d_Mo_fits_3 (by decide) k) ?_
  refine S_icmp_geN d_Mo_fits_5 rfl (by omega) (by omega) (fun c => by first | exact absurd c (by omega) | exact c.elim | exact absurd c (by decide) | exact absurd (by assumption) c | exact absurd c (by assumption)) (fun _ => ?_)
  refine ST.lift (fun _ _ k => T_aload_n (v := .ref 373) d_Mo_fits_8 rfl (Or.inr ⟨_, rfl⟩) k) ?_
  refine S_getfield d_Mo_fits_9 fg_Mo_15 (w373 _) rfl ?_
  refine ST.lift (fun _ _ k => T_iload_n d_Mo_fits_12 rfl k) ?_
  refine ST.lift (fun _ _ k => T_lconst (v := 0) d_Mo_fits_13 (by decide) k) ?_
  refine S_lastore d_Mo_fits_14 (by decide) a378 (vp_in_nI (by omega) (by omega)) ?_
  refine S_iincN (a := 0) (b := 1) (L' := [(3, .int (nI 1)), (0, .ref 373), (1, .int n), (2, .int (nI cubed))]) d_Mo_fits_15 (by decide) rfl rfl rfl ?_
  refine ST.lift (fun _ _ k => T_goto (tgt := 2) d_Mo_fits_18 rfl k) ?_
  refine ST.lift (fun _ _ k => T_iload_n d_Mo_fits_2 rfl k) ?_
  refine ST.lift (fun _ _ k => T_bipush (v := nI 12) d_Mo_fits_3 (by decide) k) ?_
  refine S_icmp_geN d_Mo_fits_5 rfl (by omega) (by omega) (fun c => by first | exact absurd c (by omega) | exact c.elim | exact absurd c (by decide) | exact absurd (by assumption) c | exact absurd c (by assumption)) (fun _ => ?_)
  refine ST.lift (fun _ _ k => T_aload_n (v := .ref 373) d_Mo_fits_8 rfl (Or.inr ⟨_, rfl⟩) k) ?_
  refine S_getfield d_Mo_fits_9 fg_Mo_15 (w373 _) rfl ?_
  refine ST.lift (fun _ _ k => T_iload_n d_Mo_fits_12 rfl k) ?_
  refine ST.lift (fun _ _ k => T_lconst (v := 0) d_Mo_fits_13 (by decide) k) ?_
  refine S_lastore d_Mo_fits_14 (by decide) a378 (vp_in_nI (by omega) (by omega)) ?_
  refine S_iincN (a := 1) (b := 1) (L' := [(3, .int (nI 2)), (0, .ref 373), (1, .int n), (2, .int (nI cubed))]) d_Mo_fits_15 (by decide) rfl rfl rfl ?_
  refine ST.lift (fun _ _ k => T_goto (tgt := 2) d_Mo_fits_18 rfl k) ?_
  refine ST.lift (fun _ _ k => T_iload_n d_Mo_fits_2 rfl k) ?_
  refine ST.lift (fun _ _ k => T_bipush (v := nI 12) d_Mo_fits_3 (by decide) k) ?_
  refine S_icmp_geN d_Mo_fits_5 rfl (by omega) (by omega) (fun c => by first | exact absurd c (by omega) | exact c.elim | exact absurd c (by decide) | exact absurd (by assumption) c | exact absurd c (by assumption)) (fun _ => ?_)
  refine ST.lift (fun _ _ k => T_aload_n (v := .ref 373) d_Mo_fits_8 rfl (Or.inr ⟨_, rfl⟩) k) ?_
  refine S_getfield d_Mo_fits_9 fg_Mo_15 (w373 _) rfl ?_
  refine ST.lift (fun _ _ k => T_iload_n d_Mo_fits_12 rfl k) ?_
  refine ST.lift (fun _ _ k => T_lconst (v := 0) d_Mo_fits_13 (by decide) k) ?_
  refine S_lastore d_Mo_fits_14 (by decide) a378 (vp_in_nI (by omega) (by omega)) ?_
  refine S_iincN (a := 2) (b := 1) (L' := [(3, .int (nI 3)), (0, .ref 373), (1, .int n), (2, .int (nI cubed))]) d_Mo_fits_15 (by decide) rfl rfl rfl ?_
  refine ST.lift (fun _ _ k => T_goto (tgt := 2) d_Mo_fits_18 rfl k) ?_
  refine ST.lift (fun _ _ k => T_iload_n d_Mo_fits_2 rfl k) ?_
  refine ST.lift (fun _ _ k => T_bipush (v := nI 12) d_Mo_fits_3 (by decide) k) ?_
  refine S_icmp_geN d_Mo_fits_5 rfl (by omega) (by omega) (fun c => by first | exact absurd c (by omega) | exact c.elim | exact absurd c (by decide) | exact absurd (by assumption) c | exact absurd c (by assumption)) (fun _ => ?_)
  refine ST.lift (fun _ _ k => T_aload_n (v := .ref 373) d_Mo_fits_8 rfl (Or.inr ⟨_, rfl⟩) k) ?_
  refine S_getfield d_Mo_fits_9 fg_Mo_15 (w373 _) rfl ?_
  refine ST.lift (fun _ _ k => T_iload_n d_Mo_fits_12 rfl k) ?_
  refine ST.lift (fun _ _ k => T_lconst (v := 0) d_Mo_fits_13 (by decide) k) ?_
  refine S_lastore d_Mo_fits_14 (by decide) a378 (vp_in_nI (by omega) (by omega)) ?_
  refine S_iincN (a := 3) (b := 1) (L' := [(3, .int (nI 4)), (0, .ref 373), (1, .int n), (2, .int (nI cubed))]) d_Mo_fits_15 (by decide) rfl rfl rfl ?_
  refine ST.lift (fun _ _ k => T_goto (tgt := 2) d_Mo_fits_18 rfl k) ?_
  refine ST.lift (fun _ _ k => T_iload_n d_Mo_fits_2 rfl k) ?_
  refine ST.lift (fun _ _ k => T_bipush (v := nI 12) d_Mo_fits_3 (by decide) k) ?_
  refine S_icmp_geN d_Mo_fits_5 rfl (by omega) (by omega) (fun c => by first | exact absurd c (by omega) | exact c.elim | exact absurd c (by decide) | exact absurd (by assumption) c | exact absurd c (by assumption)) (fun _ => ?_)
  refine ST.lift (fun _ _ k => T_aload_n (v := .ref 373) d_Mo_fits_8 rfl (Or.inr ⟨_, rfl⟩) k) ?_
  refine S_getfield d_Mo_fits_9 fg_Mo_15 (w373 _) rfl ?_
  refine ST.lift (fun _ _ k => T_iload_n d_Mo_fits_12 rfl k) ?_
  refine ST.lift (fun _ _ k => T_lconst (v := 0) d_Mo_fits_13 (by decide) k) ?_
  refine S_lastore d_Mo_fits_14 (by decide) a378 (vp_in_nI (by omega) (by omega)) ?_
  refine S_iincN (a := 4) (b := 1) (L' := [(3, .int (nI 5)), (0, .ref 373), (1, .int n), (2, .int (nI cubed))]) d_Mo_fits_15 (by decide) rfl rfl rfl ?_
  refine ST.lift (fun _ _ k => T_goto (tgt := 2) d_Mo_fits_18 rfl k) ?_
  refine ST.lift (fun _ _ k => T_iload_n d_Mo_fits_2 rfl k) ?_
  refine ST.lift (fun _ _ k => T_bipush (v := nI 12) d_Mo_fits_3 (by decide) k) ?_
  refine S_icmp_geN d_Mo_fits_5 rfl (by omega) (by omega) (fun c => by first | exact absurd c (by omega) | exact c.elim | exact absurd c (by decide) | exact absurd (by assumption) c | exact absurd c (by assumption)) (fun _ => ?_)
  refine ST.lift (fun _ _ k => T_aload_n (v := .ref 373) d_Mo_fits_8 rfl (Or.inr ⟨_, rfl⟩) k) ?_
  refine S_getfield d_Mo_fits_9 fg_Mo_15 (w373 _) rfl ?_
  refine ST.lift (fun _ _ k => T_iload_n d_Mo_fits_12 rfl k) ?_
  refine ST.lift (fun _ _ k => T_lconst (v := 0) d_Mo_fits_13 (by decide) k) ?_
  refine S_lastore d_Mo_fits_14 (by decide) a378 (vp_in_nI (by omega) (by omega)) ?_
  refine S_iincN (a := 5) (b := 1) (L' := [(3, .int (nI 6)), (0, .ref 373), (1, .int n), (2, .int (nI cubed))]) d_Mo_fits_15 (by decide) rfl rfl rfl ?_
  refine ST.lift (fun _ _ k => T_goto (tgt := 2) d_Mo_fits_18 rfl k) ?_
  refine ST.lift (fun _ _ k => T_iload_n d_Mo_fits_2 rfl k) ?_
  refine ST.lift (fun _ _ k => T_bipush (v := nI 12) d_Mo_fits_3 (by decide) k) ?_
  refine S_icmp_geN d_Mo_fits_5 rfl (by omega) (by omega) (fun c => by first | exact absurd c (by omega) | exact c.elim | exact absurd c (by decide) | exact absurd (by assumption) c | exact absurd c (by assumption)) (fun _ => ?_)
  refine ST.lift (fun _ _ k => T_aload_n (v := .ref 373) d_Mo_fits_8 rfl (Or.inr ⟨_, rfl⟩) k) ?_
  refine S_getfield d_Mo_fits_9 fg_Mo_15 (w373 _) rfl ?_
  refine ST.lift (fun _ _ k => T_iload_n d_Mo_fits_12 rfl k) ?_
  refine ST.lift (fun _ _ k => T_lconst (v := 0) d_Mo_fits_13 (by decide) k) ?_
  refine S_lastore d_Mo_fits_14 (by decide) a378 (vp_in_nI (by omega) (by omega)) ?_
  refine S_iincN (a := 6) (b := 1) (L' := [(3, .int (nI 7)), (0, .ref 373), (1, .int n), (2, .int (nI cubed))]) d_Mo_fits_15 (by decide) rfl rfl rfl ?_
  refine ST.lift (fun _ _ k => T_goto (tgt := 2) d_Mo_fits_18 rfl k) ?_
  refine ST.lift (fun _ _ k => T_iload_n d_Mo_fits_2 rfl k) ?_
  refine ST.lift (fun _ _ k => T_bipush (v := nI 12) d_Mo_fits_3 (by decide) k) ?_
  refine S_icmp_geN d_Mo_fits_5 rfl (by omega) (by omega) (fun c => by first | exact absurd c (by omega) | exact c.elim | exact absurd c (by decide) | exact absurd (by assumption) c | exact absurd c (by assumption)) (fun _ => ?_)
  refine ST.lift (fun _ _ k => T_aload_n (v := .ref 373) d_Mo_fits_8 rfl (Or.inr ⟨_, rfl⟩) k) ?_
  refine S_getfield d_Mo_fits_9 fg_Mo_15 (w373 _) rfl ?_
  refine ST.lift (fun _ _ k => T_iload_n d_Mo_fits_12 rfl k) ?_
  refine ST.lift (fun _ _ k => T_lconst (v := 0) d_Mo_fits_13 (by decide) k) ?_
  refine S_lastore d_Mo_fits_14 (by decide) a378 (vp_in_nI (by omega) (by omega)) ?_
  refine S_iincN (a := 7) (b := 1) (L' := [(3, .int (nI 8)), (0, .ref 373), (1, .int n), (2, .int (nI cubed))]) d_Mo_fits_15 (by decide) rfl rfl rfl ?_
  refine ST.lift (fun _ _ k => T_goto (tgt := 2) d_Mo_fits_18 rfl k) ?_
  refine ST.lift (fun _ _ k => T_iload_n d_Mo_fits_2 rfl k) ?_
  refine ST.lift (fun _ _ k => T_bipush (v := nI 12) d_Mo_fits_3 (by decide) k) ?_
  refine S_icmp_geN d_Mo_fits_5 rfl (by omega) (by omega) (fun c => by first | exact absurd c (by omega) | exact c.elim | exact absurd c (by decide) | exact absurd (by assumption) c | exact absurd c (by assumption)) (fun _ => ?_)
  refine ST.lift (fun _ _ k => T_aload_n (v := .ref 373) d_Mo_fits_8 rfl (Or.inr ⟨_, rfl⟩) k) ?_
  refine S_getfield d_Mo_fits_9 fg_Mo_15 (w373 _) rfl ?_
  refine ST.lift (fun _ _ k => T_iload_n d_Mo_fits_12 rfl k) ?_
  refine ST.lift (fun _ _ k => T_lconst (v := 0) d_Mo_fits_13 (by decide) k) ?_
  refine S_lastore d_Mo_fits_14 (by decide) a378 (vp_in_nI (by omega) (by omega)) ?_
  refine S_iincN (a := 8) (b := 1) (L' := [(3, .int (nI 9)), (0, .ref 373), (1, .int n), (2, .int (nI cubed))]) d_Mo_fits_15 (by decide) rfl rfl rfl ?_
  refine ST.lift (fun _ _ k => T_goto (tgt := 2) d_Mo_fits_18 rfl k) ?_
  refine ST.lift (fun _ _ k => T_iload_n d_Mo_fits_2 rfl k) ?_
  refine ST.lift (fun _ _ k => T_bipush (v := nI 12) d_Mo_fits_3 (by decide) k) ?_
  refine S_icmp_geN d_Mo_fits_5 rfl (by omega) (by omega) (fun c => by first | exact absurd c (by omega) | exact c.elim | exact absurd c (by decide) | exact absurd (by assumption) c | exact absurd c (by assumption)) (fun _ => ?_)
  refine ST.lift (fun _ _ k => T_aload_n (v := .ref 373) d_Mo_fits_8 rfl (Or.inr ⟨_, rfl⟩) k) ?_
  refine S_getfield d_Mo_fits_9 fg_Mo_15 (w373 _) rfl ?_
  refine ST.lift (fun _ _ k => T_iload_n d_Mo_fits_12 rfl k) ?_
  refine ST.lift (fun _ _ k => T_lconst (v := 0) d_Mo_fits_13 (by decide) k) ?_
  refine S_lastore d_Mo_fits_14 (by decide) a378 (vp_in_nI (by omega) (by omega)) ?_
  refine S_iincN (a := 9) (b := 1) (L' := [(3, .int (nI 10)), (0, .ref 373), (1, .int n), (2, .int (nI cubed))]) d_Mo_fits_15 (by decide) rfl rfl rfl ?_
  refine ST.lift (fun _ _ k => T_goto (tgt := 2) d_Mo_fits_18 rfl k) ?_
  refine ST.lift (fun _ _ k => T_iload_n d_Mo_fits_2 rfl k) ?_
  refine ST.lift (fun _ _ k => T_bipush (v := nI 12) d_Mo_fits_3 (by decide) k) ?_
  refine S_icmp_geN d_Mo_fits_5 rfl (by omega) (by omega) (fun c => by first | exact absurd c (by omega) | exact c.elim | exact absurd c (by decide) | exact absurd (by assumption) c | exact absurd c (by assumption)) (fun _ => ?_)
  refine ST.lift (fun _ _ k => T_aload_n (v := .ref 373) d_Mo_fits_8 rfl (Or.inr ⟨_, rfl⟩) k) ?_
  refine S_getfield d_Mo_fits_9 fg_Mo_15 (w373 _) rfl ?_
  refine ST.lift (fun _ _ k => T_iload_n d_Mo_fits_12 rfl k) ?_
  refine ST.lift (fun _ _ k => T_lconst (v := 0) d_Mo_fits_13 (by decide) k) ?_
  refine S_lastore d_Mo_fits_14 (by decide) a378 (vp_in_nI (by omega) (by omega)) ?_
  refine S_iincN (a := 10) (b := 1) (L' := [(3, .int (nI 11)), (0, .ref 373), (1, .int n), (2, .int (nI cubed))]) d_Mo_fits_15 (by decide) rfl rfl rfl ?_
  refine ST.lift (fun _ _ k => T_goto (tgt := 2) d_Mo_fits_18 rfl k) ?_
  refine ST.lift (fun _ _ k => T_iload_n d_Mo_fits_2 rfl k) ?_
  refine ST.lift (fun _ _ k => T_bipush (v := nI 12) d_Mo_fits_3 (by decide) k) ?_
  refine S_icmp_geN d_Mo_fits_5 rfl (by omega) (by omega) (fun c => by first | exact absurd c (by omega) | exact c.elim | exact absurd c (by decide) | exact absurd (by assumption) c | exact absurd c (by assumption)) (fun _ => ?_)
  refine ST.lift (fun _ _ k => T_aload_n (v := .ref 373) d_Mo_fits_8 rfl (Or.inr ⟨_, rfl⟩) k) ?_
  refine S_getfield d_Mo_fits_9 fg_Mo_15 (w373 _) rfl ?_
  refine ST.lift (fun _ _ k => T_iload_n d_Mo_fits_12 rfl k) ?_
  refine ST.lift (fun _ _ k => T_lconst (v := 0) d_Mo_fits_13 (by decide) k) ?_
  refine S_lastore d_Mo_fits_14 (by decide) a378 (vp_in_nI (by omega) (by omega)) ?_
  refine S_iincN (a := 11) (b := 1) (L' := [(3, .int (nI 12)), (0, .ref 373), (1, .int n), (2, .int (nI cubed))]) d_Mo_fits_15 (by decide) rfl rfl rfl ?_
  refine ST.lift (fun _ _ k => T_goto (tgt := 2) d_Mo_fits_18 rfl k) ?_
  refine ST.lift (fun _ _ k => T_iload_n d_Mo_fits_2 rfl k) ?_
  refine ST.lift (fun _ _ k => T_bipush (v := nI 12) d_Mo_fits_3 (by decide) k) ?_
  refine S_icmp_geN d_Mo_fits_5 rfl (by omega) (by omega) (fun _ => ?_) (fun c => by first | exact absurd c (by omega) | exact c.elim | exact absurd c (by decide) | exact absurd (by assumption) c | exact absurd c (by assumption))
  refine ST.lift (fun _ _ k => T_iconst (v := nI 0) d_Mo_fits_21 (by decide) k) ?_
  refine ST.lift (fun _ _ k => T_istore_n (L' := [(3, .int (nI 0)), (0, .ref 373), (1, .int n), (2, .int (nI cubed))]) d_Mo_fits_22 (by decide) rfl k) ?_
  refine ST.lift (fun _ _ k => T_iload_n d_Mo_fits_23 rfl k) ?_
  refine ST.lift (fun _ _ k => T_bipush (v := nI 20) d_Mo_fits_24 (by decide) k) ?_
  refine S_icmp_geN d_Mo_fits_26 rfl (by omega) (by omega) (fun c => by first | exact absurd c (by omega) | exact c.elim | exact absurd c (by decide) | exact absurd (by assumption) c | exact absurd c (by assumption)) (fun _ => ?_)
  refine ST.lift (fun _ _ k => T_aload_n (v := .ref 373) d_Mo_fits_29 rfl (Or.inr ⟨_, rfl⟩) k) ?_
  refine S_getfield d_Mo_fits_30 fg_Mo_19 (w373 _) rfl ?_
  refine ST.lift (fun _ _ k => T_iload_n d_Mo_fits_33 rfl k) ?_
  refine ST.lift (fun _ _ k => T_lconst (v := 0) d_Mo_fits_34 (by decide) k) ?_
  refine S_lastore d_Mo_fits_35 (by decide) a379 (vp_in_nI (by omega) (by omega)) ?_
  refine S_iincN (a := 0) (b := 1) (L' := [(3, .int (nI 1)), (0, .ref 373), (1, .int n), (2, .int (nI cubed))]) d_Mo_fits_36 (by decide) rfl rfl rfl ?_
  refine ST.lift (fun _ _ k => T_goto (tgt := 23) d_Mo_fits_39 rfl k) ?_
  refine ST.lift (fun _ _ k => T_iload_n d_Mo_fits_23 rfl k) ?_
  refine ST.lift (fun _ _ k => T_bipush (v := nI 20) d_Mo_fits_24 (by decide) k) ?_
  refine S_icmp_geN d_Mo_fits_26 rfl (by omega) (by omega) (fun c => by first | exact absurd c (by omega) | exact c.elim | exact absurd c (by decide) | exact absurd (by assumption) c | exact absurd c (by assumption)) (fun _ => ?_)
  refine ST.lift (fun _ _ k => T_aload_n (v := .ref 373) d_Mo_fits_29 rfl (Or.inr ⟨_, rfl⟩) k) ?_
  refine S_getfield d_Mo_fits_30 fg_Mo_19 (w373 _) rfl ?_
  refine ST.lift (fun _ _ k => T_iload_n d_Mo_fits_33 rfl k) ?_
  refine ST.lift (fun _ _ k => T_lconst (v := 0) d_Mo_fits_34 (by decide) k) ?_
  refine S_lastore d_Mo_fits_35 (by decide) a379 (vp_in_nI (by omega) (by omega)) ?_
  refine S_iincN (a := 1) (b := 1) (L' := [(3, .int (nI 2)), (0, .ref 373), (1, .int n), (2, .int (nI cubed))]) d_Mo_fits_36 (by decide) rfl rfl rfl ?_
  refine ST.lift (fun _ _ k => T_goto (tgt := 23) d_Mo_fits_39 rfl k) ?_
  refine ST.lift (fun _ _ k => T_iload_n d_Mo_fits_23 rfl k) ?_
  refine ST.lift (fun _ _ k => T_bipush (v := nI 20) d_Mo_fits_24 (by decide) k) ?_
  refine S_icmp_geN d_Mo_fits_26 rfl (by omega) (by omega) (fun c => by first | exact absurd c (by omega) | exact c.elim | exact absurd c (by decide) | exact absurd (by assumption) c | exact absurd c (by assumption)) (fun _ => ?_)
  refine ST.lift (fun _ _ k => T_aload_n (v := .ref 373) d_Mo_fits_29 rfl (Or.inr ⟨_, rfl⟩) k) ?_
  refine S_getfield d_Mo_fits_30 fg_Mo_19 (w373 _) rfl ?_
  refine ST.lift (fun _ _ k => T_iload_n d_Mo_fits_33 rfl k) ?_
  refine ST.lift (fun _ _ k => T_lconst (v := 0) d_Mo_fits_34 (by decide) k) ?_
  refine S_lastore d_Mo_fits_35 (by decide) a379 (vp_in_nI (by omega) (by omega)) ?_
  refine S_iincN (a := 2) (b := 1) (L' := [(3, .int (nI 3)), (0, .ref 373), (1, .int n), (2, .int (nI cubed))]) d_Mo_fits_36 (by decide) rfl rfl rfl ?_
  refine ST.lift (fun _ _ k => T_goto (tgt := 23) d_Mo_fits_39 rfl k) ?_
  refine ST.lift (fun _ _ k => T_iload_n d_Mo_fits_23 rfl k) ?_
  refine ST.lift (fun _ _ k => T_bipush (v := nI 20) d_Mo_fits_24 (by decide) k) ?_
  refine S_icmp_geN d_Mo_fits_26 rfl (by omega) (by omega) (fun c => by first | exact absurd c (by omega) | exact c.elim | exact absurd c (by decide) | exact absurd (by assumption) c | exact absurd c (by assumption)) (fun _ => ?_)
  refine ST.lift (fun _ _ k => T_aload_n (v := .ref 373) d_Mo_fits_29 rfl (Or.inr ⟨_, rfl⟩) k) ?_
  refine S_getfield d_Mo_fits_30 fg_Mo_19 (w373 _) rfl ?_
  refine ST.lift (fun _ _ k => T_iload_n d_Mo_fits_33 rfl k) ?_
  refine ST.lift (fun _ _ k => T_lconst (v := 0) d_Mo_fits_34 (by decide) k) ?_
  refine S_lastore d_Mo_fits_35 (by decide) a379 (vp_in_nI (by omega) (by omega)) ?_
  refine S_iincN (a := 3) (b := 1) (L' := [(3, .int (nI 4)), (0, .ref 373), (1, .int n), (2, .int (nI cubed))]) d_Mo_fits_36 (by decide) rfl rfl rfl ?_
  refine ST.lift (fun _ _ k => T_goto (tgt := 23) d_Mo_fits_39 rfl k) ?_
  refine ST.lift (fun _ _ k => T_iload_n d_Mo_fits_23 rfl k) ?_
  refine ST.lift (fun _ _ k => T_bipush (v := nI 20) d_Mo_fits_24 (by decide) k) ?_
  refine S_icmp_geN d_Mo_fits_26 rfl (by omega) (by omega) (fun c => by first | exact absurd c (by omega) | exact c.elim | exact absurd c (by decide) | exact absurd (by assumption) c | exact absurd c (by assumption)) (fun _ => ?_)
  refine ST.lift (fun _ _ k => T_aload_n (v := .ref 373) d_Mo_fits_29 rfl (Or.inr ⟨_, rfl⟩) k) ?_
  refine S_getfield d_Mo_fits_30 fg_Mo_19 (w373 _) rfl ?_
  refine ST.lift (fun _ _ k => T_iload_n d_Mo_fits_33 rfl k) ?_
  refine ST.lift (fun _ _ k => T_lconst (v := 0) d_Mo_fits_34 (by decide) k) ?_
  refine S_lastore d_Mo_fits_35 (by decide) a379 (vp_in_nI (by omega) (by omega)) ?_
  refine S_iincN (a := 4) (b := 1) (L' := [(3, .int (nI 5)), (0, .ref 373), (1, .int n), (2, .int (nI cubed))]) d_Mo_fits_36 (by decide) rfl rfl rfl ?_
  refine ST.lift (fun _ _ k => T_goto (tgt := 23) d_Mo_fits_39 rfl k) ?_
  refine ST.lift (fun _ _ k => T_iload_n d_Mo_fits_23 rfl k) ?_
  refine ST.lift (fun _ _ k => T_bipush (v := nI 20) d_Mo_fits_24 (by decide) k) ?_
  refine S_icmp_geN d_Mo_fits_26 rfl (by omega) (by omega) (fun c => by first | exact absurd c (by omega) | exact c.elim | exact absurd c (by decide) | exact absurd (by assumption) c | exact absurd c (by assumption)) (fun _ => ?_)
  refine ST.lift (fun _ _ k => T_aload_n (v := .ref 373) d_Mo_fits_29 rfl (Or.inr ⟨_, rfl⟩) k) ?_
  refine S_getfield d_Mo_fits_30 fg_Mo_19 (w373 _) rfl ?_
  refine ST.lift (fun _ _ k => T_iload_n d_Mo_fits_33 rfl k) ?_
  refine ST.lift (fun _ _ k => T_lconst (v := 0) d_Mo_fits_34 (by decide) k) ?_
  refine S_lastore d_Mo_fits_35 (by decide) a379 (vp_in_nI (by omega) (by omega)) ?_
  refine S_iincN (a := 5) (b := 1) (L' := [(3, .int (nI 6)), (0, .ref 373), (1, .int n), (2, .int (nI cubed))]) d_Mo_fits_36 (by decide) rfl rfl rfl ?_
  refine ST.lift (fun _ _ k => T_goto (tgt := 23) d_Mo_fits_39 rfl k) ?_
  refine ST.lift (fun _ _ k => T_iload_n d_Mo_fits_23 rfl k) ?_
  refine ST.lift (fun _ _ k => T_bipush (v := nI 20) d_Mo_fits_24 (by decide) k) ?_
  refine S_icmp_geN d_Mo_fits_26 rfl (by omega) (by omega) (fun c => by first | exact absurd c (by omega) | exact c.elim | exact absurd c (by decide) | exact absurd (by assumption) c | exact absurd c (by assumption)) (fun _ => ?_)
  refine ST.lift (fun _ _ k => T_aload_n (v := .ref 373) d_Mo_fits_29 rfl (Or.inr ⟨_, rfl⟩) k) ?_
  refine S_getfield d_Mo_fits_30 fg_Mo_19 (w373 _) rfl ?_
  refine ST.lift (fun _ _ k => T_iload_n d_Mo_fits_33 rfl k) ?_
  refine ST.lift (fun _ _ k => T_lconst (v := 0) d_Mo_fits_34 (by decide) k) ?_
  refine S_lastore d_Mo_fits_35 (by decide) a379 (vp_in_nI (by omega) (by omega)) ?_
  refine S_iincN (a := 6) (b := 1) (L' := [(3, .int (nI 7)), (0, .ref 373), (1, .int n), (2, .int (nI cubed))]) d_Mo_fits_36 (by decide) rfl rfl rfl ?_
  refine ST.lift (fun _ _ k => T_goto (tgt := 23) d_Mo_fits_39 rfl k) ?_
  refine ST.lift (fun _ _ k => T_iload_n d_Mo_fits_23 rfl k) ?_
  refine ST.lift (fun _ _ k => T_bipush (v := nI 20) d_Mo_fits_24 (by decide) k) ?_
  refine S_icmp_geN d_Mo_fits_26 rfl (by omega) (by omega) (fun c => by first | exact absurd c (by omega) | exact c.elim | exact absurd c (by decide) | exact absurd (by assumption) c | exact absurd c (by assumption)) (fun _ => ?_)
  refine ST.lift (fun _ _ k => T_aload_n (v := .ref 373) d_Mo_fits_29 rfl (Or.inr ⟨_, rfl⟩) k) ?_
  refine S_getfield d_Mo_fits_30 fg_Mo_19 (w373 _) rfl ?_
  refine ST.lift (fun _ _ k => T_iload_n d_Mo_fits_33 rfl k) ?_
  refine ST.lift (fun _ _ k => T_lconst (v := 0) d_Mo_fits_34 (by decide) k) ?_
  refine S_lastore d_Mo_fits_35 (by decide) a379 (vp_in_nI (by omega) (by omega)) ?_
  refine S_iincN (a := 7) (b := 1) (L' := [(3, .int (nI 8)), (0, .ref 373), (1, .int n), (2, .int (nI cubed))]) d_Mo_fits_36 (by decide) rfl rfl rfl ?_
  refine ST.lift (fun _ _ k => T_goto (tgt := 23) d_Mo_fits_39 rfl k) ?_
  refine ST.lift (fun _ _ k => T_iload_n d_Mo_fits_23 rfl k) ?_
  refine ST.lift (fun _ _ k => T_bipush (v := nI 20) d_Mo_fits_24 (by decide) k) ?_
  refine S_icmp_geN d_Mo_fits_26 rfl (by omega) (by omega) (fun c => by first | exact absurd c (by omega) | exact c.elim | exact absurd c (by decide) | exact absurd (by assumption) c | exact absurd c (by assumption)) (fun _ => ?_)
  refine ST.lift (fun _ _ k => T_aload_n (v := .ref 373) d_Mo_fits_29 rfl (Or.inr ⟨_, rfl⟩) k) ?_
  refine S_getfield d_Mo_fits_30 fg_Mo_19 (w373 _) rfl ?_
  refine ST.lift (fun _ _ k => T_iload_n d_Mo_fits_33 rfl k) ?_
  refine ST.lift (fun _ _ k => T_lconst (v := 0) d_Mo_fits_34 (by decide) k) ?_
  refine S_lastore d_Mo_fits_35 (by decide) a379 (vp_in_nI (by omega) (by omega)) ?_
  refine S_iincN (a := 8) (b := 1) (L' := [(3, .int (nI 9)), (0, .ref 373), (1, .int n), (2, .int (nI cubed))]) d_Mo_fits_36 (by decide) rfl rfl rfl ?_
  refine ST.lift (fun _ _ k => T_goto (tgt := 23) d_Mo_fits_39 rfl k) ?_
  refine ST.lift (fun _ _ k => T_iload_n d_Mo_fits_23 rfl k) ?_
  refine ST.lift (fun _ _ k => T_bipush (v := nI 20) d_Mo_fits_24 (by decide) k) ?_
  refine S_icmp_geN d_Mo_fits_26 rfl (by omega) (by omega) (fun c => by first | exact absurd c (by omega) | exact c.elim | exact absurd c (by decide) | exact absurd (by assumption) c | exact absurd c (by assumption)) (fun _ => ?_)
  refine ST.lift (fun _ _ k => T_aload_n (v := .ref 373) d_Mo_fits_29 rfl (Or.inr ⟨_, rfl⟩) k) ?_
  refine S_getfield d_Mo_fits_30 fg_Mo_19 (w373 _) rfl ?_
  refine ST.lift (fun _ _ k => T_iload_n d_Mo_fits_33 rfl k) ?_
  refine ST.lift (fun _ _ k => T_lconst (v := 0) d_Mo_fits_34 (by decide) k) ?_
  refine S_lastore d_Mo_fits_35 (by decide) a379 (vp_in_nI (by omega) (by omega)) ?_
  refine S_iincN (a := 9) (b := 1) (L' := [(3, .int (nI 10)), (0, .ref 373), (1, .int n), (2, .int (nI cubed))]) d_Mo_fits_36 (by decide) rfl rfl rfl ?_
  refine ST.lift (fun _ _ k => T_goto (tgt := 23) d_Mo_fits_39 rfl k) ?_
  refine ST.lift (fun _ _ k => T_iload_n d_Mo_fits_23 rfl k) ?_
  refine ST.lift (fun _ _ k => T_bipush (v := nI 20) d_Mo_fits_24 (by decide) k) ?_
  refine S_icmp_geN d_Mo_fits_26 rfl (by omega) (by omega) (fun c => by first | exact absurd c (by omega) | exact c.elim | exact absurd c (by decide) | exact absurd (by assumption) c | exact absurd c (by assumption)) (fun _ => ?_)
  refine ST.lift (fun _ _ k => T_aload_n (v := .ref 373) d_Mo_fits_29 rfl (Or.inr ⟨_, rfl⟩) k) ?_
  refine S_getfield d_Mo_fits_30 fg_Mo_19 (w373 _) rfl ?_
  refine ST.lift (fun _ _ k => T_iload_n d_Mo_fits_33 rfl k) ?_
  refine ST.lift (fun _ _ k => T_lconst (v := 0) d_Mo_fits_34 (by decide) k) ?_
  refine S_lastore d_Mo_fits_35 (by decide) a379 (vp_in_nI (by omega) (by omega)) ?_
  refine S_iincN (a := 10) (b := 1) (L' := [(3, .int (nI 11)), (0, .ref 373), (1, .int n), (2, .int (nI cubed))]) d_Mo_fits_36 (by decide) rfl rfl rfl ?_
  refine ST.lift (fun _ _ k => T_goto (tgt := 23) d_Mo_fits_39 rfl k) ?_
  refine ST.lift (fun _ _ k => T_iload_n d_Mo_fits_23 rfl k) ?_
  refine ST.lift (fun _ _ k => T_bipush (v := nI 20) d_Mo_fits_24 (by decide) k) ?_
  refine S_icmp_geN d_Mo_fits_26 rfl (by omega) (by omega) (fun c => by first | exact absurd c (by omega) | exact c.elim | exact absurd c (by decide) | exact absurd (by assumption) c | exact absurd c (by assumption)) (fun _ => ?_)
  refine ST.lift (fun _ _ k => T_aload_n (v := .ref 373) d_Mo_fits_29 rfl (Or.inr ⟨_, rfl⟩) k) ?_
  refine S_getfield d_Mo_fits_30 fg_Mo_19 (w373 _) rfl ?_
  refine ST.lift (fun _ _ k => T_iload_n d_Mo_fits_33 rfl k) ?_
  refine ST.lift (fun _ _ k => T_lconst (v := 0) d_Mo_fits_34 (by decide) k) ?_
  refine S_lastore d_Mo_fits_35 (by decide) a379 (vp_in_nI (by omega) (by omega)) ?_
  refine S_iincN (a := 11) (b := 1) (L' := [(3, .int (nI 12)), (0, .ref 373), (1, .int n), (2, .int (nI cubed))]) d_Mo_fits_36 (by decide) rfl rfl rfl ?_
  refine ST.lift (fun _ _ k => T_goto (tgt := 23) d_Mo_fits_39 rfl k) ?_
  refine ST.lift (fun _ _ k => T_iload_n d_Mo_fits_23 rfl k) ?_
  refine ST.lift (fun _ _ k => T_bipush (v := nI 20) d_Mo_fits_24 (by decide) k) ?_
  refine S_icmp_geN d_Mo_fits_26 rfl (by omega) (by omega) (fun c => by first | exact absurd c (by omega) | exact c.elim | exact absurd c (by decide) | exact absurd (by assumption) c | exact absurd c (by assumption)) (fun _ => ?_)
  refine ST.lift (fun _ _ k => T_aload_n (v := .ref 373) d_Mo_fits_29 rfl (Or.inr ⟨_, rfl⟩) k) ?_
  refine S_getfield d_Mo_fits_30 fg_Mo_19 (w373 _) rfl ?_
  refine ST.lift (fun _ _ k => T_iload_n d_Mo_fits_33 rfl k) ?_
  refine ST.lift (fun _ _ k => T_lconst (v := 0) d_Mo_fits_34 (by decide) k) ?_
  refine S_lastore d_Mo_fits_35 (by decide) a379 (vp_in_nI (by omega) (by omega)) ?_
  refine S_iincN (a := 12) (b := 1) (L' := [(3, .int (nI 13)), (0, .ref 373), (1, .int n), (2, .int (nI cubed))]) d_Mo_fits_36 (by decide) rfl rfl rfl ?_
  refine ST.lift (fun _ _ k => T_goto (tgt := 23) d_Mo_fits_39 rfl k) ?_
  refine ST.lift (fun _ _ k => T_iload_n d_Mo_fits_23 rfl k) ?_
  refine ST.lift (fun _ _ k => T_bipush (v := nI 20) d_Mo_fits_24 (by decide) k) ?_
  refine S_icmp_geN d_Mo_fits_26 rfl (by omega) (by omega) (fun c => by first | exact absurd c (by omega) | exact c.elim | exact absurd c (by decide) | exact absurd (by assumption) c | exact absurd c (by assumption)) (fun _ => ?_)
  refine ST.lift (fun _ _ k => T_aload_n (v := .ref 373) d_Mo_fits_29 rfl (Or.inr ⟨_, rfl⟩) k) ?_
  refine S_getfield d_Mo_fits_30 fg_Mo_19 (w373 _) rfl ?_
  refine ST.lift (fun _ _ k => T_iload_n d_Mo_fits_33 rfl k) ?_
  refine ST.lift (fun _ _ k => T_lconst (v := 0) d_Mo_fits_34 (by decide) k) ?_
  refine S_lastore d_Mo_fits_35 (by decide) a379 (vp_in_nI (by omega) (by omega)) ?_
  refine S_iincN (a := 13) (b := 1) (L' := [(3, .int (nI 14)), (0, .ref 373), (1, .int n), (2, .int (nI cubed))]) d_Mo_fits_36 (by decide) rfl rfl rfl ?_
  refine ST.lift (fun _ _ k => T_goto (tgt := 23) d_Mo_fits_39 rfl k) ?_
  refine ST.lift (fun _ _ k => T_iload_n d_Mo_fits_23 rfl k) ?_
  refine ST.lift (fun _ _ k => T_bipush (v := nI 20) d_Mo_fits_24 (by decide) k) ?_
  refine S_icmp_geN d_Mo_fits_26 rfl (by omega) (by omega) (fun c => by first | exact absurd c (by omega) | exact c.elim | exact absurd c (by decide) | exact absurd (by assumption) c | exact absurd c (by assumption)) (fun _ => ?_)
  refine ST.lift (fun _ _ k => T_aload_n (v := .ref 373) d_Mo_fits_29 rfl (Or.inr ⟨_, rfl⟩) k) ?_
  refine S_getfield d_Mo_fits_30 fg_Mo_19 (w373 _) rfl ?_
  refine ST.lift (fun _ _ k => T_iload_n d_Mo_fits_33 rfl k) ?_
  refine ST.lift (fun _ _ k => T_lconst (v := 0) d_Mo_fits_34 (by decide) k) ?_
  refine S_lastore d_Mo_fits_35 (by decide) a379 (vp_in_nI (by omega) (by omega)) ?_
  refine S_iincN (a := 14) (b := 1) (L' := [(3, .int (nI 15)), (0, .ref 373), (1, .int n), (2, .int (nI cubed))]) d_Mo_fits_36 (by decide) rfl rfl rfl ?_
  refine ST.lift (fun _ _ k => T_goto (tgt := 23) d_Mo_fits_39 rfl k) ?_
  refine ST.lift (fun _ _ k => T_iload_n d_Mo_fits_23 rfl k) ?_
  refine ST.lift (fun _ _ k => T_bipush (v := nI 20) d_Mo_fits_24 (by decide) k) ?_
  refine S_icmp_geN d_Mo_fits_26 rfl (by omega) (by omega) (fun c => by first | exact absurd c (by omega) | exact c.elim | exact absurd c (by decide) | exact absurd (by assumption) c | exact absurd c (by assumption)) (fun _ => ?_)
  refine ST.lift (fun _ _ k => T_aload_n (v := .ref 373) d_Mo_fits_29 rfl (Or.inr ⟨_, rfl⟩) k) ?_
  refine S_getfield d_Mo_fits_30 fg_Mo_19 (w373 _) rfl ?_
  refine ST.lift (fun _ _ k => T_iload_n d_Mo_fits_33 rfl k) ?_
  refine ST.lift (fun _ _ k => T_lconst (v := 0) d_Mo_fits_34 (by decide) k) ?_
  refine S_lastore d_Mo_fits_35 (by decide) a379 (vp_in_nI (by omega) (by omega)) ?_
  refine S_iincN (a := 15) (b := 1) (L' := [(3, .int (nI 16)), (0, .ref 373), (1, .int n), (2, .int (nI cubed))]) d_Mo_fits_36 (by decide) rfl rfl rfl ?_
  refine ST.lift (fun _ _ k => T_goto (tgt := 23) d_Mo_fits_39 rfl k) ?_
  refine ST.lift (fun _ _ k => T_iload_n d_Mo_fits_23 rfl k) ?_
  refine ST.lift (fun _ _ k => T_bipush (v := nI 20) d_Mo_fits_24 (by decide) k) ?_
  refine S_icmp_geN d_Mo_fits_26 rfl (by omega) (by omega) (fun c => by first | exact absurd c (by omega) | exact c.elim | exact absurd c (by decide) | exact absurd (by assumption) c | exact absurd c (by assumption)) (fun _ => ?_)
  refine ST.lift (fun _ _ k => T_aload_n (v := .ref 373) d_Mo_fits_29 rfl (Or.inr ⟨_, rfl⟩) k) ?_
  refine S_getfield d_Mo_fits_30 fg_Mo_19 (w373 _) rfl ?_
  refine ST.lift (fun _ _ k => T_iload_n d_Mo_fits_33 rfl k) ?_
  refine ST.lift (fun _ _ k => T_lconst (v := 0) d_Mo_fits_34 (by decide) k) ?_
  refine S_lastore d_Mo_fits_35 (by decide) a379 (vp_in_nI (by omega) (by omega)) ?_
  refine S_iincN (a := 16) (b := 1) (L' := [(3, .int (nI 17)), (0, .ref 373), (1, .int n), (2, .int (nI cubed))]) d_Mo_fits_36 (by decide) rfl rfl rfl ?_
  refine ST.lift (fun _ _ k => T_goto (tgt := 23) d_Mo_fits_39 rfl k) ?_
  refine ST.lift (fun _ _ k => T_iload_n d_Mo_fits_23 rfl k) ?_
  refine ST.lift (fun _ _ k => T_bipush (v := nI 20) d_Mo_fits_24 (by decide) k) ?_
  refine S_icmp_geN d_Mo_fits_26 rfl (by omega) (by omega) (fun c => by first | exact absurd c (by omega) | exact c.elim | exact absurd c (by decide) | exact absurd (by assumption) c | exact absurd c (by assumption)) (fun _ => ?_)
  refine ST.lift (fun _ _ k => T_aload_n (v := .ref 373) d_Mo_fits_29 rfl (Or.inr ⟨_, rfl⟩) k) ?_
  refine S_getfield d_Mo_fits_30 fg_Mo_19 (w373 _) rfl ?_
  refine ST.lift (fun _ _ k => T_iload_n d_Mo_fits_33 rfl k) ?_
  refine ST.lift (fun _ _ k => T_lconst (v := 0) d_Mo_fits_34 (by decide) k) ?_
  refine S_lastore d_Mo_fits_35 (by decide) a379 (vp_in_nI (by omega) (by omega)) ?_
  refine S_iincN (a := 17) (b := 1) (L' := [(3, .int (nI 18)), (0, .ref 373), (1, .int n), (2, .int (nI cubed))]) d_Mo_fits_36 (by decide) rfl rfl rfl ?_
  refine ST.lift (fun _ _ k => T_goto (tgt := 23) d_Mo_fits_39 rfl k) ?_
  refine ST.lift (fun _ _ k => T_iload_n d_Mo_fits_23 rfl k) ?_
  refine ST.lift (fun _ _ k => T_bipush (v := nI 20) d_Mo_fits_24 (by decide) k) ?_
  refine S_icmp_geN d_Mo_fits_26 rfl (by omega) (by omega) (fun c => by first | exact absurd c (by omega) | exact c.elim | exact absurd c (by decide) | exact absurd (by assumption) c | exact absurd c (by assumption)) (fun _ => ?_)
  refine ST.lift (fun _ _ k => T_aload_n (v := .ref 373) d_Mo_fits_29 rfl (Or.inr ⟨_, rfl⟩) k) ?_
  refine S_getfield d_Mo_fits_30 fg_Mo_19 (w373 _) rfl ?_
  refine ST.lift (fun _ _ k => T_iload_n d_Mo_fits_33 rfl k) ?_
  refine ST.lift (fun _ _ k => T_lconst (v := 0) d_Mo_fits_34 (by decide) k) ?_
  refine S_lastore d_Mo_fits_35 (by decide) a379 (vp_in_nI (by omega) (by omega)) ?_
  refine S_iincN (a := 18) (b := 1) (L' := [(3, .int (nI 19)), (0, .ref 373), (1, .int n), (2, .int (nI cubed))]) d_Mo_fits_36 (by decide) rfl rfl rfl ?_
  refine ST.lift (fun _ _ k => T_goto (tgt := 23) d_Mo_fits_39 rfl k) ?_
  refine ST.lift (fun _ _ k => T_iload_n d_Mo_fits_23 rfl k) ?_
  refine ST.lift (fun _ _ k => T_bipush (v := nI 20) d_Mo_fits_24 (by decide) k) ?_
  refine S_icmp_geN d_Mo_fits_26 rfl (by omega) (by omega) (fun c => by first | exact absurd c (by omega) | exact c.elim | exact absurd c (by decide) | exact absurd (by assumption) c | exact absurd c (by assumption)) (fun _ => ?_)
  refine ST.lift (fun _ _ k => T_aload_n (v := .ref 373) d_Mo_fits_29 rfl (Or.inr ⟨_, rfl⟩) k) ?_
  refine S_getfield d_Mo_fits_30 fg_Mo_19 (w373 _) rfl ?_
  refine ST.lift (fun _ _ k => T_iload_n d_Mo_fits_33 rfl k) ?_
  refine ST.lift (fun _ _ k => T_lconst (v := 0) d_Mo_fits_34 (by decide) k) ?_
  refine S_lastore d_Mo_fits_35 (by decide) a379 (vp_in_nI (by omega) (by omega)) ?_
  refine S_iincN (a := 19) (b := 1) (L' := [(3, .int (nI 20)), (0, .ref 373), (1, .int n), (2, .int (nI cubed))]) d_Mo_fits_36 (by decide) rfl rfl rfl ?_
  refine ST.lift (fun _ _ k => T_goto (tgt := 23) d_Mo_fits_39 rfl k) ?_
  refine ST.lift (fun _ _ k => T_iload_n d_Mo_fits_23 rfl k) ?_
  refine ST.lift (fun _ _ k => T_bipush (v := nI 20) d_Mo_fits_24 (by decide) k) ?_
  refine S_icmp_geN d_Mo_fits_26 rfl (by omega) (by omega) (fun _ => ?_) (fun c => by first | exact absurd c (by omega) | exact c.elim | exact absurd c (by decide) | exact absurd (by assumption) c | exact absurd c (by assumption))
  refine ST.lift (fun _ _ k => T_iconst (v := nI 0) d_Mo_fits_42 (by decide) k) ?_
  refine ST.lift (fun _ _ k => T_istore_n (L' := [(3, .int (nI 0)), (0, .ref 373), (1, .int n), (2, .int (nI cubed))]) d_Mo_fits_43 (by decide) rfl k) ?_
  refine ST.lift (fun _ _ k => T_iload_n d_Mo_fits_44 rfl k) ?_
  refine ST.lift (fun _ _ k => T_iconst (v := nI 5) d_Mo_fits_45 (by decide) k) ?_
  refine S_icmp_geN d_Mo_fits_46 rfl (by omega) (by omega) (fun c => by first | exact absurd c (by omega) | exact c.elim | exact absurd c (by decide) | exact absurd (by assumption) c | exact absurd c (by assumption)) (fun _ => ?_)
  refine ST.lift (fun _ _ k => T_iconst (v := nI 0) d_Mo_fits_49 (by decide) k) ?_
  refine ST.lift (fun _ _ k => T_istore (L' := [(4, .int (nI 0)), (3, .int (nI 0)), (0, .ref 373), (1, .int n), (2, .int (nI cubed))]) d_Mo_fits_50 (by decide) rfl k) ?_
  refine ST.lift (fun _ _ k => T_iload d_Mo_fits_52 rfl k) ?_
  refine ST.lift (fun _ _ k => T_iconst (v := nI 5) d_Mo_fits_54 (by decide) k) ?_
  refine S_icmp_geN d_Mo_fits_55 rfl (by omega) (by omega) (fun c => by first | exact absurd c (by omega) | exact c.elim | exact absurd c (by decide) | exact absurd (by assumption) c | exact absurd c (by assumption)) (fun _ => ?_)
  refine ST.lift (fun _ _ k => T_aload_n (v := .ref 373) d_Mo_fits_58 rfl (Or.inr ⟨_, rfl⟩) k) ?_
  refine S_getfield d_Mo_fits_59 fg_Mo_15 (w373 _) rfl ?_
  refine ST.lift (fun _ _ k => T_iload_n d_Mo_fits_62 rfl k) ?_
  refine ST.lift (fun _ _ k => T_iload d_Mo_fits_63 rfl k) ?_
  refine S_iaddN d_Mo_fits_65 ?_
  refine S_topi (y := nI 0) (by decide) ?_
  refine ST.lift (fun _ _ k => T_dup2 d_Mo_fits_66 rfl rfl k) ?_
  refine S_laload d_Mo_fits_67 a378 (vp_in_nI (by omega) (by omega)) (fun z1 => ?_)
  refine ST.lift (fun _ _ k => T_aload_n (v := .ref 373) d_Mo_fits_68 rfl (Or.inr ⟨_, rfl⟩) k) ?_
  refine S_getfield d_Mo_fits_69 fg_Mo_22 (w373 _) rfl ?_
  refine ST.lift (fun _ _ k => T_iload_n d_Mo_fits_72 rfl k) ?_
  refine S_laload d_Mo_fits_73 a377 (vp_in_nI (by omega) (by omega)) (fun z2 => ?_)
  refine ST.lift (fun _ _ k => T_aload_n (v := .ref 373) d_Mo_fits_74 rfl (Or.inr ⟨_, rfl⟩) k) ?_
  refine S_getfield d_Mo_fits_75 fg_Mo_22 (w373 _) rfl ?_
  refine ST.lift (fun _ _ k => T_iload d_Mo_fits_78 rfl k) ?_
  refine S_laload d_Mo_fits_80 a377 (vp_in_nI (by omega) (by omega)) (fun z3 => ?_)
  refine ST.lift (fun _ _ k => T_lmul d_Mo_fits_81 k) (S_anyl fun z4 => ?_)
  refine ST.lift (fun _ _ k => T_ladd d_Mo_fits_82 k) (S_anyl fun z5 => ?_)
  refine S_lastore d_Mo_fits_83 (by decide) a378 (vp_in_nI (by omega) (by omega)) ?_
  refine S_iincN (a := 0) (b := 1) (L' := [(4, .int (nI 1)), (3, .int (nI 0)), (0, .ref 373), (1, .int n), (2, .int (nI cubed))]) d_Mo_fits_84 (by decide) rfl rfl rfl ?_
  refine ST.lift (fun _ _ k => T_goto (tgt := 52) d_Mo_fits_87 rfl k) ?_
  refine ST.lift (fun _ _ k => T_iload d_Mo_fits_52 rfl k) ?_
  refine ST.lift (fun _ _ k => T_iconst (v := nI 5) d_Mo_fits_54 (by decide) k) ?_
  refine S_icmp_geN d_Mo_fits_55 rfl (by omega) (by omega) (fun c => by first | exact absurd c (by omega) | exact c.elim | exact absurd c (by decide) | exact absurd (by assumption) c | exact absurd c (by assumption)) (fun _ => ?_)
  refine ST.lift (fun _ _ k => T_aload_n (v := .ref 373) d_Mo_fits_58 rfl (Or.inr ⟨_, rfl⟩) k) ?_
  refine S_getfield d_Mo_fits_59 fg_Mo_15 (w373 _) rfl ?_
  refine ST.lift (fun _ _ k => T_iload_n d_Mo_fits_62 rfl k) ?_
  refine ST.lift (fun _ _ k => T_iload d_Mo_fits_63 rfl k) ?_
  refine S_iaddN d_Mo_fits_65 ?_
  refine S_topi (y := nI 1) (by decide) ?_
  refine ST.lift (fun _ _ k => T_dup2 d_Mo_fits_66 rfl rfl k) ?_
  refine S_laload d_Mo_fits_67 a378 (vp_in_nI (by omega) (by omega)) (fun z6 => ?_)
  refine ST.lift (fun _ _ k => T_aload_n (v := .ref 373) d_Mo_fits_68 rfl (Or.inr ⟨_, rfl⟩) k) ?_
  refine S_getfield d_Mo_fits_69 fg_Mo_22 (w373 _) rfl ?_
  refine ST.lift (fun _ _ k => T_iload_n d_Mo_fits_72 rfl k) ?_
  refine S_laload d_Mo_fits_73 a377 (vp_in_nI (by omega) (by omega)) (fun z7 => ?_)
  refine ST.lift (fun _ _ k => T_aload_n (v := .ref 373) d_Mo_fits_74 rfl (Or.inr ⟨_, rfl⟩) k) ?_
  refine S_getfield d_Mo_fits_75 fg_Mo_22 (w373 _) rfl ?_
  refine ST.lift (fun _ _ k => T_iload d_Mo_fits_78 rfl k) ?_
  refine S_laload d_Mo_fits_80 a377 (vp_in_nI (by omega) (by omega)) (fun z8 => ?_)
  refine ST.lift (fun _ _ k => T_lmul d_Mo_fits_81 k) (S_anyl fun z9 => ?_)
  refine ST.lift (fun _ _ k => T_ladd d_Mo_fits_82 k) (S_anyl fun z10 => ?_)
  refine S_lastore d_Mo_fits_83 (by decide) a378 (vp_in_nI (by omega) (by omega)) ?_
  refine S_iincN (a := 1) (b := 1) (L' := [(4, .int (nI 2)), (3, .int (nI 0)), (0, .ref 373), (1, .int n), (2, .int (nI cubed))]) d_Mo_fits_84 (by decide) rfl rfl rfl ?_
  refine ST.lift (fun _ _ k => T_goto (tgt := 52) d_Mo_fits_87 rfl k) ?_
  refine ST.lift (fun _ _ k => T_iload d_Mo_fits_52 rfl k) ?_
  refine ST.lift (fun _ _ k => T_iconst (v := nI 5) d_Mo_fits_54 (by decide) k) ?_
  refine S_icmp_geN d_Mo_fits_55 rfl (by omega) (by omega) (fun c => by first | exact absurd c (by omega) | exact c.elim | exact absurd c (by decide) | exact absurd (by assumption) c | exact absurd c (by assumption)) (fun _ => ?_)
  refine ST.lift (fun _ _ k => T_aload_n (v := .ref 373) d_Mo_fits_58 rfl (Or.inr ⟨_, rfl⟩) k) ?_
  refine S_getfield d_Mo_fits_59 fg_Mo_15 (w373 _) rfl ?_
  refine ST.lift (fun _ _ k => T_iload_n d_Mo_fits_62 rfl k) ?_
  refine ST.lift (fun _ _ k => T_iload d_Mo_fits_63 rfl k) ?_
  refine S_iaddN d_Mo_fits_65 ?_
  refine S_topi (y := nI 2) (by decide) ?_
  refine ST.lift (fun _ _ k => T_dup2 d_Mo_fits_66 rfl rfl k) ?_
  refine S_laload d_Mo_fits_67 a378 (vp_in_nI (by omega) (by omega)) (fun z11 => ?_)
  refine ST.lift (fun _ _ k => T_aload_n (v := .ref 373) d_Mo_fits_68 rfl (Or.inr ⟨_, rfl⟩) k) ?_
  refine S_getfield d_Mo_fits_69 fg_Mo_22 (w373 _) rfl ?_
  refine ST.lift (fun _ _ k => T_iload_n d_Mo_fits_72 rfl k) ?_
  refine S_laload d_Mo_fits_73 a377 (vp_in_nI (by omega) (by omega)) (fun z12 => ?_)
  refine ST.lift (fun _ _ k => T_aload_n (v := .ref 373) d_Mo_fits_74 rfl (Or.inr ⟨_, rfl⟩) k) ?_
  refine S_getfield d_Mo_fits_75 fg_Mo_22 (w373 _) rfl ?_
  refine ST.lift (fun _ _ k => T_iload d_Mo_fits_78 rfl k) ?_
  refine S_laload d_Mo_fits_80 a377 (vp_in_nI (by omega) (by omega)) (fun z13 => ?_)
  refine ST.lift (fun _ _ k => T_lmul d_Mo_fits_81 k) (S_anyl fun z14 => ?_)
  refine ST.lift (fun _ _ k => T_ladd d_Mo_fits_82 k) (S_anyl fun z15 => ?_)
  refine S_lastore d_Mo_fits_83 (by decide) a378 (vp_in_nI (by omega) (by omega)) ?_
  refine S_iincN (a := 2) (b := 1) (L' := [(4, .int (nI 3)), (3, .int (nI 0)), (0, .ref 373), (1, .int n), (2, .int (nI cubed))]) d_Mo_fits_84 (by decide) rfl rfl rfl ?_
  refine ST.lift (fun _ _ k => T_goto (tgt := 52) d_Mo_fits_87 rfl k) ?_
  refine ST.lift (fun _ _ k => T_iload d_Mo_fits_52 rfl k) ?_
  refine ST.lift (fun _ _ k => T_iconst (v := nI 5) d_Mo_fits_54 (by decide) k) ?_
  refine S_icmp_geN d_Mo_fits_55 rfl (by omega) (by omega) (fun c => by first | exact absurd c (by omega) | exact c.elim | exact absurd c (by decide) | exact absurd (by assumption) c | exact absurd c (by assumption)) (fun _ => ?_)
  refine ST.lift (fun _ _ k => T_aload_n (v := .ref 373) d_Mo_fits_58 rfl (Or.inr ⟨_, rfl⟩) k) ?_
  refine S_getfield d_Mo_fits_59 fg_Mo_15 (w373 _) rfl ?_
  refine ST.lift (fun _ _ k => T_iload_n d_Mo_fits_62 rfl k) ?_
  refine ST.lift (fun _ _ k => T_iload d_Mo_fits_63 rfl k) ?_
  refine S_iaddN d_Mo_fits_65 ?_
  refine S_topi (y := nI 3) (by decide) ?_
  refine ST.lift (fun _ _ k => T_dup2 d_Mo_fits_66 rfl rfl k) ?_
  refine S_laload d_Mo_fits_67 a378 (vp_in_nI (by omega) (by omega)) (fun z16 => ?_)
  refine ST.lift (fun _ _ k => T_aload_n (v := .ref 373) d_Mo_fits_68 rfl (Or.inr ⟨_, rfl⟩) k) ?_
  refine S_getfield d_Mo_fits_69 fg_Mo_22 (w373 _) rfl ?_
  refine ST.lift (fun _ _ k => T_iload_n d_Mo_fits_72 rfl k) ?_
  refine S_laload d_Mo_fits_73 a377 (vp_in_nI (by omega) (by omega)) (fun z17 => ?_)
  refine ST.lift (fun _ _ k => T_aload_n (v := .ref 373) d_Mo_fits_74 rfl (Or.inr ⟨_, rfl⟩) k) ?_
  refine S_getfield d_Mo_fits_75 fg_Mo_22 (w373 _) rfl ?_
  refine ST.lift (fun _ _ k => T_iload d_Mo_fits_78 rfl k) ?_
  refine S_laload d_Mo_fits_80 a377 (vp_in_nI (by omega) (by omega)) (fun z18 => ?_)
  refine ST.lift (fun _ _ k => T_lmul d_Mo_fits_81 k) (S_anyl fun z19 => ?_)
  refine ST.lift (fun _ _ k => T_ladd d_Mo_fits_82 k) (S_anyl fun z20 => ?_)
  refine S_lastore d_Mo_fits_83 (by decide) a378 (vp_in_nI (by omega) (by omega)) ?_
  refine S_iincN (a := 3) (b := 1) (L' := [(4, .int (nI 4)), (3, .int (nI 0)), (0, .ref 373), (1, .int n), (2, .int (nI cubed))]) d_Mo_fits_84 (by decide) rfl rfl rfl ?_
  refine ST.lift (fun _ _ k => T_goto (tgt := 52) d_Mo_fits_87 rfl k) ?_
  refine ST.lift (fun _ _ k => T_iload d_Mo_fits_52 rfl k) ?_
  refine ST.lift (fun _ _ k => T_iconst (v := nI 5) d_Mo_fits_54 (by decide) k) ?_
  refine S_icmp_geN d_Mo_fits_55 rfl (by omega) (by omega) (fun c => by first | exact absurd c (by omega) | exact c.elim | exact absurd c (by decide) | exact absurd (by assumption) c | exact absurd c (by assumption)) (fun _ => ?_)
  refine ST.lift (fun _ _ k => T_aload_n (v := .ref 373) d_Mo_fits_58 rfl (Or.inr ⟨_, rfl⟩) k) ?_
  refine S_getfield d_Mo_fits_59 fg_Mo_15 (w373 _) rfl ?_
  refine ST.lift (fun _ _ k => T_iload_n d_Mo_fits_62 rfl k) ?_
  refine ST.lift (fun _ _ k => T_iload d_Mo_fits_63 rfl k) ?_
  refine S_iaddN d_Mo_fits_65 ?_
  refine S_topi (y := nI 4) (by decide) ?_
  refine ST.lift (fun _ _ k => T_dup2 d_Mo_fits_66 rfl rfl k) ?_
  refine S_laload d_Mo_fits_67 a378 (vp_in_nI (by omega) (by omega)) (fun z21 => ?_)
  refine ST.lift (fun _ _ k => T_aload_n (v := .ref 373) d_Mo_fits_68 rfl (Or.inr ⟨_, rfl⟩) k) ?_
  refine S_getfield d_Mo_fits_69 fg_Mo_22 (w373 _) rfl ?_
  refine ST.lift (fun _ _ k => T_iload_n d_Mo_fits_72 rfl k) ?_
  refine S_laload d_Mo_fits_73 a377 (vp_in_nI (by omega) (by omega)) (fun z22 => ?_)
  refine ST.lift (fun _ _ k => T_aload_n (v := .ref 373) d_Mo_fits_74 rfl (Or.inr ⟨_, rfl⟩) k) ?_
  refine S_getfield d_Mo_fits_75 fg_Mo_22 (w373 _) rfl ?_
  refine ST.lift (fun _ _ k => T_iload d_Mo_fits_78 rfl k) ?_
  refine S_laload d_Mo_fits_80 a377 (vp_in_nI (by omega) (by omega)) (fun z23 => ?_)
  refine ST.lift (fun _ _ k => T_lmul d_Mo_fits_81 k) (S_anyl fun z24 => ?_)
  refine ST.lift (fun _ _ k => T_ladd d_Mo_fits_82 k) (S_anyl fun z25 => ?_)
  refine S_lastore d_Mo_fits_83 (by decide) a378 (vp_in_nI (by omega) (by omega)) ?_
  refine S_iincN (a := 4) (b := 1) (L' := [(4, .int (nI 5)), (3, .int (nI 0)), (0, .ref 373), (1, .int n), (2, .int (nI cubed))]) d_Mo_fits_84 (by decide) rfl rfl rfl ?_
  refine ST.lift (fun _ _ k => T_goto (tgt := 52) d_Mo_fits_87 rfl k) ?_
  refine ST.lift (fun _ _ k => T_iload d_Mo_fits_52 rfl k) ?_
  refine ST.lift (fun _ _ k => T_iconst (v := nI 5) d_Mo_fits_54 (by decide) k) ?_
  refine S_icmp_geN d_Mo_fits_55 rfl (by omega) (by omega) (fun _ => ?_) (fun c => by first | exact absurd c (by omega) | exact c.elim | exact absurd c (by decide) | exact absurd (by assumption) c | exact absurd c (by assumption))
  refine S_iincN (a := 0) (b := 1) (L' := [(3, .int (nI 1)), (4, .int (nI 5)), (0, .ref 373), (1, .int n), (2, .int (nI cubed))]) d_Mo_fits_90 (by decide) rfl rfl rfl ?_
  refine ST.lift (fun _ _ k => T_goto (tgt := 44) d_Mo_fits_93 rfl k) ?_
  refine ST.lift (fun _ _ k => T_iload_n d_Mo_fits_44 rfl k) ?_
  refine ST.lift (fun _ _ k => T_iconst (v := nI 5) d_Mo_fits_45 (by decide) k) ?_
  refine S_icmp_geN d_Mo_fits_46 rfl (by omega) (by omega) (fun c => by first | exact absurd c (by omega) | exact c.elim | exact absurd c (by decide) | exact absurd (by assumption) c | exact absurd c (by assumption)) (fun _ => ?_)
  refine ST.lift (fun _ _ k => T_iconst (v := nI 0) d_Mo_fits_49 (by decide) k) ?_
  refine ST.lift (fun _ _ k => T_istore (L' := [(4, .int (nI 0)), (3, .int (nI 1)), (0, .ref 373), (1, .int n), (2, .int (nI cubed))]) d_Mo_fits_50 (by decide) rfl k) ?_
  refine ST.lift (fun _ _ k => T_iload d_Mo_fits_52 rfl k) ?_
  refine ST.lift (fun _ _ k => T_iconst (v := nI 5) d_Mo_fits_54 (by decide) k) ?_
  refine S_icmp_geN d_Mo_fits_55 rfl (by omega) (by omega) (fun c => by first | exact absurd c (by omega) | exact c.elim | exact absurd c (by decide) | exact absurd (by assumption) c | exact absurd c (by assumption)) (fun _ => ?_)
  refine ST.lift (fun _ _ k => T_aload_n (v := .ref 373) d_Mo_fits_58 rfl (Or.inr ⟨_, rfl⟩) k) ?_
  refine S_getfield d_Mo_fits_59 fg_Mo_15 (w373 _) rfl ?_
  refine ST.lift (fun _ _ k => T_iload_n d_Mo_fits_62 rfl k) ?_
  refine ST.lift (fun _ _ k => T_iload d_Mo_fits_63 rfl k) ?_
  refine S_iaddN d_Mo_fits_65 ?_
  refine S_topi (y := nI 1) (by decide) ?_
  refine ST.lift (fun _ _ k => T_dup2 d_Mo_fits_66 rfl rfl k) ?_
  refine S_laload d_Mo_fits_67 a378 (vp_in_nI (by omega) (by omega)) (fun z26 => ?_)
  refine ST.lift (fun _ _ k => T_aload_n (v := .ref 373) d_Mo_fits_68 rfl (Or.inr ⟨_, rfl⟩) k) ?_
  refine S_getfield d_Mo_fits_69 fg_Mo_22 (w373 _) rfl ?_
  refine ST.lift (fun _ _ k => T_iload_n d_Mo_fits_72 rfl k) ?_
  refine S_laload d_Mo_fits_73 a377 (vp_in_nI (by omega) (by omega)) (fun z27 => ?_)
  refine ST.lift (fun _ _ k => T_aload_n (v := .ref 373) d_Mo_fits_74 rfl (Or.inr ⟨_, rfl⟩) k) ?_
  refine S_getfield d_Mo_fits_75 fg_Mo_22 (w373 _) rfl ?_
  refine ST.lift (fun _ _ k => T_iload d_Mo_fits_78 rfl k) ?_
  refine S_laload d_Mo_fits_80 a377 (vp_in_nI (by omega) (by omega)) (fun z28 => ?_)
  refine ST.lift (fun _ _ k => T_lmul d_Mo_fits_81 k) (S_anyl fun z29 => ?_)
  refine ST.lift (fun _ _ k => T_ladd d_Mo_fits_82 k) (S_anyl fun z30 => ?_)
  refine S_lastore d_Mo_fits_83 (by decide) a378 (vp_in_nI (by omega) (by omega)) ?_
  refine S_iincN (a := 0) (b := 1) (L' := [(4, .int (nI 1)), (3, .int (nI 1)), (0, .ref 373), (1, .int n), (2, .int (nI cubed))]) d_Mo_fits_84 (by decide) rfl rfl rfl ?_
  refine ST.lift (fun _ _ k => T_goto (tgt := 52) d_Mo_fits_87 rfl k) ?_
  refine ST.lift (fun _ _ k => T_iload d_Mo_fits_52 rfl k) ?_
  refine ST.lift (fun _ _ k => T_iconst (v := nI 5) d_Mo_fits_54 (by decide) k) ?_
  refine S_icmp_geN d_Mo_fits_55 rfl (by omega) (by omega) (fun c => by first | exact absurd c (by omega) | exact c.elim | exact absurd c (by decide) | exact absurd (by assumption) c | exact absurd c (by assumption)) (fun _ => ?_)
  refine ST.lift (fun _ _ k => T_aload_n (v := .ref 373) d_Mo_fits_58 rfl (Or.inr ⟨_, rfl⟩) k) ?_
  refine S_getfield d_Mo_fits_59 fg_Mo_15 (w373 _) rfl ?_
  refine ST.lift (fun _ _ k => T_iload_n d_Mo_fits_62 rfl k) ?_
  refine ST.lift (fun _ _ k => T_iload d_Mo_fits_63 rfl k) ?_
  refine S_iaddN d_Mo_fits_65 ?_
  refine S_topi (y := nI 2) (by decide) ?_
  refine ST.lift (fun _ _ k => T_dup2 d_Mo_fits_66 rfl rfl k) ?_
  refine S_laload d_Mo_fits_67 a378 (vp_in_nI (by omega) (by omega)) (fun z31 => ?_)
  refine ST.lift (fun _ _ k => T_aload_n (v := .ref 373) d_Mo_fits_68 rfl (Or.inr ⟨_, rfl⟩) k) ?_
  refine S_getfield d_Mo_fits_69 fg_Mo_22 (w373 _) rfl ?_
  refine ST.lift (fun _ _ k => T_iload_n d_Mo_fits_72 rfl k) ?_
  refine S_laload d_Mo_fits_73 a377 (vp_in_nI (by omega) (by omega)) (fun z32 => ?_)
  refine ST.lift (fun _ _ k => T_aload_n (v := .ref 373) d_Mo_fits_74 rfl (Or.inr ⟨_, rfl⟩) k) ?_
  refine S_getfield d_Mo_fits_75 fg_Mo_22 (w373 _) rfl ?_
  refine ST.lift (fun _ _ k => T_iload d_Mo_fits_78 rfl k) ?_
  refine S_laload d_Mo_fits_80 a377 (vp_in_nI (by omega) (by omega)) (fun z33 => ?_)
  refine ST.lift (fun _ _ k => T_lmul d_Mo_fits_81 k) (S_anyl fun z34 => ?_)
  refine ST.lift (fun _ _ k => T_ladd d_Mo_fits_82 k) (S_anyl fun z35 => ?_)
  refine S_lastore d_Mo_fits_83 (by decide) a378 (vp_in_nI (by omega) (by omega)) ?_
  refine S_iincN (a := 1) (b := 1) (L' := [(4, .int (nI 2)), (3, .int (nI 1)), (0, .ref 373), (1, .int n), (2, .int (nI cubed))]) d_Mo_fits_84 (by decide) rfl rfl rfl ?_
  refine ST.lift (fun _ _ k => T_goto (tgt := 52) d_Mo_fits_87 rfl k) ?_
  refine ST.lift (fun _ _ k => T_iload d_Mo_fits_52 rfl k) ?_
  refine ST.lift (fun _ _ k => T_iconst (v := nI 5) d_Mo_fits_54 (by decide) k) ?_
  refine S_icmp_geN d_Mo_fits_55 rfl (by omega) (by omega) (fun c => by first | exact absurd c (by omega) | exact c.elim | exact absurd c (by decide) | exact absurd (by assumption) c | exact absurd c (by assumption)) (fun _ => ?_)
  refine ST.lift (fun _ _ k => T_aload_n (v := .ref 373) d_Mo_fits_58 rfl (Or.inr ⟨_, rfl⟩) k) ?_
  refine S_getfield d_Mo_fits_59 fg_Mo_15 (w373 _) rfl ?_
  refine ST.lift (fun _ _ k => T_iload_n d_Mo_fits_62 rfl k) ?_
  refine ST.lift (fun _ _ k => T_iload d_Mo_fits_63 rfl k) ?_
  refine S_iaddN d_Mo_fits_65 ?_
  refine S_topi (y := nI 3) (by decide) ?_
  refine ST.lift (fun _ _ k => T_dup2 d_Mo_fits_66 rfl rfl k) ?_
  refine S_laload d_Mo_fits_67 a378 (vp_in_nI (by omega) (by omega)) (fun z36 => ?_)
  refine ST.lift (fun _ _ k => T_aload_n (v := .ref 373) d_Mo_fits_68 rfl (Or.inr ⟨_, rfl⟩) k) ?_
  refine S_getfield d_Mo_fits_69 fg_Mo_22 (w373 _) rfl ?_
  refine ST.lift (fun _ _ k => T_iload_n d_Mo_fits_72 rfl k) ?_
  refine S_laload d_Mo_fits_73 a377 (vp_in_nI (by omega) (by omega)) (fun z37 => ?_)
  refine ST.lift (fun _ _ k => T_aload_n (v := .ref 373) d_Mo_fits_74 rfl (Or.inr ⟨_, rfl⟩) k) ?_
  refine S_getfield d_Mo_fits_75 fg_Mo_22 (w373 _) rfl ?_
  refine ST.lift (fun _ _ k => T_iload d_Mo_fits_78 rfl k) ?_
  refine S_laload d_Mo_fits_80 a377 (vp_in_nI (by omega) (by omega)) (fun z38 => ?_)
  refine ST.lift (fun _ _ k => T_lmul d_Mo_fits_81 k) (S_anyl fun z39 => ?_)
  refine ST.lift (fun _ _ k => T_ladd d_Mo_fits_82 k) (S_anyl fun z40 => ?_)
  refine S_lastore d_Mo_fits_83 (by decide) a378 (vp_in_nI (by omega) (by omega)) ?_
  refine S_iincN (a := 2) (b := 1) (L' := [(4, .int (nI 3)), (3, .int (nI 1)), (0, .ref 373), (1, .int n), (2, .int (nI cubed))]) d_Mo_fits_84 (by decide) rfl rfl rfl ?_
  refine ST.lift (fun _ _ k => T_goto (tgt := 52) d_Mo_fits_87 rfl k) ?_
  refine ST.lift (fun _ _ k => T_iload d_Mo_fits_52 rfl k) ?_
  refine ST.lift (fun _ _ k => T_iconst (v := nI 5) d_Mo_fits_54 (by decide) k) ?_
  refine S_icmp_geN d_Mo_fits_55 rfl (by omega) (by omega) (fun c => by first | exact absurd c (by omega) | exact c.elim | exact absurd c (by decide) | exact absurd (by assumption) c | exact absurd c (by assumption)) (fun _ => ?_)
  refine ST.lift (fun _ _ k => T_aload_n (v := .ref 373) d_Mo_fits_58 rfl (Or.inr ⟨_, rfl⟩) k) ?_
  refine S_getfield d_Mo_fits_59 fg_Mo_15 (w373 _) rfl ?_
  refine ST.lift (fun _ _ k => T_iload_n d_Mo_fits_62 rfl k) ?_
  refine ST.lift (fun _ _ k => T_iload d_Mo_fits_63 rfl k) ?_
  refine S_iaddN d_Mo_fits_65 ?_
  refine S_topi (y := nI 4) (by decide) ?_
  refine ST.lift (fun _ _ k => T_dup2 d_Mo_fits_66 rfl rfl k) ?_
  refine S_laload d_Mo_fits_67 a378 (vp_in_nI (by omega) (by omega)) (fun z41 => ?_)
  refine ST.lift (fun _ _ k => T_aload_n (v := .ref 373) d_Mo_fits_68 rfl (Or.inr ⟨_, rfl⟩) k) ?_
  refine S_getfield d_Mo_fits_69 fg_Mo_22 (w373 _) rfl ?_
  refine ST.lift (fun _ _ k => T_iload_n d_Mo_fits_72 rfl k) ?_
  refine S_laload d_Mo_fits_73 a377 (vp_in_nI (by omega) (by omega)) (fun z42 => ?_)
  refine ST.lift (fun _ _ k => T_aload_n (v := .ref 373) d_Mo_fits_74 rfl (Or.inr ⟨_, rfl⟩) k) ?_
  refine S_getfield d_Mo_fits_75 fg_Mo_22 (w373 _) rfl ?_
  refine ST.lift (fun _ _ k => T_iload d_Mo_fits_78 rfl k) ?_
  refine S_laload d_Mo_fits_80 a377 (vp_in_nI (by omega) (by omega)) (fun z43 => ?_)
  refine ST.lift (fun _ _ k => T_lmul d_Mo_fits_81 k) (S_anyl fun z44 => ?_)
  refine ST.lift (fun _ _ k => T_ladd d_Mo_fits_82 k) (S_anyl fun z45 => ?_)
  refine S_lastore d_Mo_fits_83 (by decide) a378 (vp_in_nI (by omega) (by omega)) ?_
  refine S_iincN (a := 3) (b := 1) (L' := [(4, .int (nI 4)), (3, .int (nI 1)), (0, .ref 373), (1, .int n), (2, .int (nI cubed))]) d_Mo_fits_84 (by decide) rfl rfl rfl ?_
  refine ST.lift (fun _ _ k => T_goto (tgt := 52) d_Mo_fits_87 rfl k) ?_
  refine ST.lift (fun _ _ k => T_iload d_Mo_fits_52 rfl k) ?_
  refine ST.lift (fun _ _ k => T_iconst (v := nI 5) d_Mo_fits_54 (by decide) k) ?_
  refine S_icmp_geN d_Mo_fits_55 rfl (by omega) (by omega) (fun c => by first | exact absurd c (by omega) | exact c.elim | exact absurd c (by decide) | exact absurd (by assumption) c | exact absurd c (by assumption)) (fun _ => ?_)
  refine ST.lift (fun _ _ k => T_aload_n (v := .ref 373) d_Mo_fits_58 rfl (Or.inr ⟨_, rfl⟩) k) ?_
  refine S_getfield d_Mo_fits_59 fg_Mo_15 (w373 _) rfl ?_
  refine ST.lift (fun _ _ k => T_iload_n d_Mo_fits_62 rfl k) ?_
  refine ST.lift (fun _ _ k => T_iload d_Mo_fits_63 rfl k) ?_
  refine S_iaddN d_Mo_fits_65 ?_
  refine S_topi (y := nI 5) (by decide) ?_
  refine ST.lift (fun _ _ k => T_dup2 d_Mo_fits_66 rfl rfl k) ?_
  refine S_laload d_Mo_fits_67 a378 (vp_in_nI (by omega) (by omega)) (fun z46 => ?_)
  refine ST.lift (fun _ _ k => T_aload_n (v := .ref 373) d_Mo_fits_68 rfl (Or.inr ⟨_, rfl⟩) k) ?_
  refine S_getfield d_Mo_fits_69 fg_Mo_22 (w373 _) rfl ?_
  refine ST.lift (fun _ _ k => T_iload_n d_Mo_fits_72 rfl k) ?_
  refine S_laload d_Mo_fits_73 a377 (vp_in_nI (by omega) (by omega)) (fun z47 => ?_)
  refine ST.lift (fun _ _ k => T_aload_n (v := .ref 373) d_Mo_fits_74 rfl (Or.inr ⟨_, rfl⟩) k) ?_
  refine S_getfield d_Mo_fits_75 fg_Mo_22 (w373 _) rfl ?_
  refine ST.lift (fun _ _ k => T_iload d_Mo_fits_78 rfl k) ?_
  refine S_laload d_Mo_fits_80 a377 (vp_in_nI (by omega) (by omega)) (fun z48 => ?_)
  refine ST.lift (fun _ _ k => T_lmul d_Mo_fits_81 k) (S_anyl fun z49 => ?_)
  refine ST.lift (fun _ _ k => T_ladd d_Mo_fits_82 k) (S_anyl fun z50 => ?_)
  refine S_lastore d_Mo_fits_83 (by decide) a378 (vp_in_nI (by omega) (by omega)) ?_
  refine S_iincN (a := 4) (b := 1) (L' := [(4, .int (nI 5)), (3, .int (nI 1)), (0, .ref 373), (1, .int n), (2, .int (nI cubed))]) d_Mo_fits_84 (by decide) rfl rfl rfl ?_
  refine ST.lift (fun _ _ k => T_goto (tgt := 52) d_Mo_fits_87 rfl k) ?_
  refine ST.lift (fun _ _ k => T_iload d_Mo_fits_52 rfl k) ?_
  refine ST.lift (fun _ _ k => T_iconst (v := nI 5) d_Mo_fits_54 (by decide) k) ?_
  refine S_icmp_geN d_Mo_fits_55 rfl (by omega) (by omega) (fun _ => ?_) (fun c => by first | exact absurd c (by omega) | exact c.elim | exact absurd c (by decide) | exact absurd (by assumption) c | exact absurd c (by assumption))
  refine S_iincN (a := 1) (b := 1) (L' := [(3, .int (nI 2)), (4, .int (nI 5)), (0, .ref 373), (1, .int n), (2, .int (nI cubed))]) d_Mo_fits_90 (by decide) rfl rfl rfl ?_
  refine ST.lift (fun _ _ k => T_goto (tgt := 44) d_Mo_fits_93 rfl k) ?_
  refine ST.lift (fun _ _ k => T_iload_n d_Mo_fits_44 rfl k) ?_
  refine ST.lift (fun _ _ k => T_iconst (v := nI 5) d_Mo_fits_45 (by decide) k) ?_
  refine S_icmp_geN d_Mo_fits_46 rfl (by omega) (by omega) (fun c => by first | exact absurd c (by omega) | exact c.elim | exact absurd c (by decide) | exact absurd (by assumption) c | exact absurd c (by assumption)) (fun _ => ?_)
  refine ST.lift (fun _ _ k => T_iconst (v := nI 0) d_Mo_fits_49 (by decide) k) ?_
  refine ST.lift (fun _ _ k => T_istore (L' := [(4, .int (nI 0)), (3, .int (nI 2)), (0, .ref 373), (1, .int n), (2, .int (nI cubed))]) d_Mo_fits_50 (by decide) rfl k) ?_
  refine ST.lift (fun _ _ k => T_iload d_Mo_fits_52 rfl k) ?_
  refine ST.lift (fun _ _ k => T_iconst (v := nI 5) d_Mo_fits_54 (by decide) k) ?_
  refine S_icmp_geN d_Mo_fits_55 rfl (by omega) (by omega) (fun c => by first | exact absurd c (by omega) | exact c.elim | exact absurd c (by decide) | exact absurd (by assumption) c | exact absurd c (by assumption)) (fun _ => ?_)
  refine ST.lift (fun _ _ k => T_aload_n (v := .ref 373) d_Mo_fits_58 rfl (Or.inr ⟨_, rfl⟩) k) ?_
  refine S_getfield d_Mo_fits_59 fg_Mo_15 (w373 _) rfl ?_
  refine ST.lift (fun _ _ k => T_iload_n d_Mo_fits_62 rfl k) ?_
  refine ST.lift (fun _ _ k => T_iload d_Mo_fits_63 rfl k) ?_
  refine S_iaddN d_Mo_fits_65 ?_
  refine S_topi (y := nI 2) (by decide) ?_
  refine ST.lift (fun _ _ k => T_dup2 d_Mo_fits_66 rfl rfl k) ?_
  refine S_laload d_Mo_fits_67 a378 (vp_in_nI (by omega) (by omega)) (fun z51 => ?_)
  refine ST.lift (fun _ _ k => T_aload_n (v := .ref 373) d_Mo_fits_68 rfl (Or.inr ⟨_, rfl⟩) k) ?_
  refine S_getfield d_Mo_fits_69 fg_Mo_22 (w373 _) rfl ?_
  refine ST.lift (fun _ _ k => T_iload_n d_Mo_fits_72 rfl k) ?_
  refine S_laload d_Mo_fits_73 a377 (vp_in_nI (by omega) (by omega)) (fun z52 => ?_)
  refine ST.lift (fun _ _ k => T_aload_n (v := .ref 373) d_Mo_fits_74 rfl (Or.inr ⟨_, rfl⟩) k) ?_
  refine S_getfield d_Mo_fits_75 fg_Mo_22 (w373 _) rfl ?_
  refine ST.lift (fun _ _ k => T_iload d_Mo_fits_78 rfl k) ?_
  refine S_laload d_Mo_fits_80 a377 (vp_in_nI (by omega) (by omega)) (fun z53 => ?_)
  refine ST.lift (fun _ _ k => T_lmul d_Mo_fits_81 k) (S_anyl fun z54 => ?_)
  refine ST.lift (fun _ _ k => T_ladd d_Mo_fits_82 k) (S_anyl fun z55 => ?_)
  refine S_lastore d_Mo_fits_83 (by decide) a378 (vp_in_nI (by omega) (by omega)) ?_
  refine S_iincN (a := 0) (b := 1) (L' := [(4, .int (nI 1)), (3, .int (nI 2)), (0, .ref 373), (1, .int n), (2, .int (nI cubed))]) d_Mo_fits_84 (by decide) rfl rfl rfl ?_
  refine ST.lift (fun _ _ k => T_goto (tgt := 52) d_Mo_fits_87 rfl k) ?_
  refine ST.lift (fun _ _ k => T_iload d_Mo_fits_52 rfl k) ?_
  refine ST.lift (fun _ _ k => T_iconst (v := nI 5) d_Mo_fits_54 (by decide) k) ?_
  refine S_icmp_geN d_Mo_fits_55 rfl (by omega) (by omega) (fun c => by first | exact absurd c (by omega) | exact c.elim | exact absurd c (by decide) | exact absurd (by assumption) c | exact absurd c (by assumption)) (fun _ => ?_)
  refine ST.lift (fun _ _ k => T_aload_n (v := .ref 373) d_Mo_fits_58 rfl (Or.inr ⟨_, rfl⟩) k) ?_
  refine S_getfield d_Mo_fits_59 fg_Mo_15 (w373 _) rfl ?_
  refine ST.lift (fun _ _ k => T_iload_n d_Mo_fits_62 rfl k) ?_
  refine ST.lift (fun _ _ k => T_iload d_Mo_fits_63 rfl k) ?_
  refine S_iaddN d_Mo_fits_65 ?_
  refine S_topi (y := nI 3) (by decide) ?_
  refine ST.lift (fun _ _ k => T_dup2 d_Mo_fits_66 rfl rfl k) ?_
  refine S_laload d_Mo_fits_67 a378 (vp_in_nI (by omega) (by omega)) (fun z56 => ?_)
  refine ST.lift (fun _ _ k => T_aload_n (v := .ref 373) d_Mo_fits_68 rfl (Or.inr ⟨_, rfl⟩) k) ?_
  refine S_getfield d_Mo_fits_69 fg_Mo_22 (w373 _) rfl ?_
  refine ST.lift (fun _ _ k => T_iload_n d_Mo_fits_72 rfl k) ?_
  refine S_laload d_Mo_fits_73 a377 (vp_in_nI (by omega) (by omega)) (fun z57 => ?_)
  refine ST.lift (fun _ _ k => T_aload_n (v := .ref 373) d_Mo_fits_74 rfl (Or.inr ⟨_, rfl⟩) k) ?_
  refine S_getfield d_Mo_fits_75 fg_Mo_22 (w373 _) rfl ?_
  refine ST.lift (fun _ _ k => T_iload d_Mo_fits_78 rfl k) ?_
  refine S_laload d_Mo_fits_80 a377 (vp_in_nI (by omega) (by omega)) (fun z58 => ?_)
  refine ST.lift (fun _ _ k => T_lmul d_Mo_fits_81 k) (S_anyl fun z59 => ?_)
  refine ST.lift (fun _ _ k => T_ladd d_Mo_fits_82 k) (S_anyl fun z60 => ?_)
  refine S_lastore d_Mo_fits_83 (by decide) a378 (vp_in_nI (by omega) (by omega)) ?_
  refine S_iincN (a := 1) (b := 1) (L' := [(4, .int (nI 2)), (3, .int (nI 2)), (0, .ref 373), (1, .int n), (2, .int (nI cubed))]) d_Mo_fits_84 (by decide) rfl rfl rfl ?_
  refine ST.lift (fun _ _ k => T_goto (tgt := 52) d_Mo_fits_87 rfl k) ?_
  refine ST.lift (fun _ _ k => T_iload d_Mo_fits_52 rfl k) ?_
  refine ST.lift (fun _ _ k => T_iconst (v := nI 5) d_Mo_fits_54 (by decide) k) ?_
  refine S_icmp_geN d_Mo_fits_55 rfl (by omega) (by omega) (fun c => by first | exact absurd c (by omega) | exact c.elim | exact absurd c (by decide) | exact absurd (by assumption) c | exact absurd c (by assumption)) (fun _ => ?_)
  refine ST.lift (fun _ _ k => T_aload_n (v := .ref 373) d_Mo_fits_58 rfl (Or.inr ⟨_, rfl⟩) k) ?_
  refine S_getfield d_Mo_fits_59 fg_Mo_15 (w373 _) rfl ?_
  refine ST.lift (fun _ _ k => T_iload_n d_Mo_fits_62 rfl k) ?_
  refine ST.lift (fun _ _ k => T_iload d_Mo_fits_63 rfl k) ?_
  refine S_iaddN d_Mo_fits_65 ?_
  refine S_topi (y := nI 4) (by decide) ?_
  refine ST.lift (fun _ _ k => T_dup2 d_Mo_fits_66 rfl rfl k) ?_
  refine S_laload d_Mo_fits_67 a378 (vp_in_nI (by omega) (by omega)) (fun z61 => ?_)
  refine ST.lift (fun _ _ k => T_aload_n (v := .ref 373) d_Mo_fits_68 rfl (Or.inr ⟨_, rfl⟩) k) ?_
  refine S_getfield d_Mo_fits_69 fg_Mo_22 (w373 _) rfl ?_
  refine ST.lift (fun _ _ k => T_iload_n d_Mo_fits_72 rfl k) ?_
  refine S_laload d_Mo_fits_73 a377 (vp_in_nI (by omega) (by omega)) (fun z62 => ?_)
  refine ST.lift (fun _ _ k => T_aload_n (v := .ref 373) d_Mo_fits_74 rfl (Or.inr ⟨_, rfl⟩) k) ?_
  refine S_getfield d_Mo_fits_75 fg_Mo_22 (w373 _) rfl ?_
  refine ST.lift (fun _ _ k => T_iload d_Mo_fits_78 rfl k) ?_
  refine S_laload d_Mo_fits_80 a377 (vp_in_nI (by omega) (by omega)) (fun z63 => ?_)
  refine ST.lift (fun _ _ k => T_lmul d_Mo_fits_81 k) (S_anyl fun z64 => ?_)
  refine ST.lift (fun _ _ k => T_ladd d_Mo_fits_82 k) (S_anyl fun z65 => ?_)
  refine S_lastore d_Mo_fits_83 (by decide) a378 (vp_in_nI (by omega) (by omega)) ?_
  refine S_iincN (a := 2) (b := 1) (L' := [(4, .int (nI 3)), (3, .int (nI 2)), (0, .ref 373), (1, .int n), (2, .int (nI cubed))]) d_Mo_fits_84 (by decide) rfl rfl rfl ?_
  refine ST.lift (fun _ _ k => T_goto (tgt := 52) d_Mo_fits_87 rfl k) ?_
  refine ST.lift (fun _ _ k => T_iload d_Mo_fits_52 rfl k) ?_
  refine ST.lift (fun _ _ k => T_iconst (v := nI 5) d_Mo_fits_54 (by decide) k) ?_
  refine S_icmp_geN d_Mo_fits_55 rfl (by omega) (by omega) (fun c => by first | exact absurd c (by omega) | exact c.elim | exact absurd c (by decide) | exact absurd (by assumption) c | exact absurd c (by assumption)) (fun _ => ?_)
  refine ST.lift (fun _ _ k => T_aload_n (v := .ref 373) d_Mo_fits_58 rfl (Or.inr ⟨_, rfl⟩) k) ?_
  refine S_getfield d_Mo_fits_59 fg_Mo_15 (w373 _) rfl ?_
  refine ST.lift (fun _ _ k => T_iload_n d_Mo_fits_62 rfl k) ?_
  refine ST.lift (fun _ _ k => T_iload d_Mo_fits_63 rfl k) ?_
  refine S_iaddN d_Mo_fits_65 ?_
  refine S_topi (y := nI 5) (by decide) ?_
  refine ST.lift (fun _ _ k => T_dup2 d_Mo_fits_66 rfl rfl k) ?_
  refine S_laload d_Mo_fits_67 a378 (vp_in_nI (by omega) (by omega)) (fun z66 => ?_)
  refine ST.lift (fun _ _ k => T_aload_n (v := .ref 373) d_Mo_fits_68 rfl (Or.inr ⟨_, rfl⟩) k) ?_
  refine S_getfield d_Mo_fits_69 fg_Mo_22 (w373 _) rfl ?_
  refine ST.lift (fun _ _ k => T_iload_n d_Mo_fits_72 rfl k) ?_
  refine S_laload d_Mo_fits_73 a377 (vp_in_nI (by omega) (by omega)) (fun z67 => ?_)
  refine ST.lift (fun _ _ k => T_aload_n (v := .ref 373) d_Mo_fits_74 rfl (Or.inr ⟨_, rfl⟩) k) ?_
  refine S_getfield d_Mo_fits_75 fg_Mo_22 (w373 _) rfl ?_
  refine ST.lift (fun _ _ k => T_iload d_Mo_fits_78 rfl k) ?_
  refine S_laload d_Mo_fits_80 a377 (vp_in_nI (by omega) (by omega)) (fun z68 => ?_)
  refine ST.lift (fun _ _ k => T_lmul d_Mo_fits_81 k) (S_anyl fun z69 => ?_)
  refine ST.lift (fun _ _ k => T_ladd d_Mo_fits_82 k) (S_anyl fun z70 => ?_)
  refine S_lastore d_Mo_fits_83 (by decide) a378 (vp_in_nI (by omega) (by omega)) ?_
  refine S_iincN (a := 3) (b := 1) (L' := [(4, .int (nI 4)), (3, .int (nI 2)), (0, .ref 373), (1, .int n), (2, .int (nI cubed))]) d_Mo_fits_84 (by decide) rfl rfl rfl ?_
  refine ST.lift (fun _ _ k => T_goto (tgt := 52) d_Mo_fits_87 rfl k) ?_
  refine ST.lift (fun _ _ k => T_iload d_Mo_fits_52 rfl k) ?_
  refine ST.lift (fun _ _ k => T_iconst (v := nI 5) d_Mo_fits_54 (by decide) k) ?_
  refine S_icmp_geN d_Mo_fits_55 rfl (by omega) (by omega) (fun c => by first | exact absurd c (by omega) | exact c.elim | exact absurd c (by decide) | exact absurd (by assumption) c | exact absurd c (by assumption)) (fun _ => ?_)
  refine ST.lift (fun _ _ k => T_aload_n (v := .ref 373) d_Mo_fits_58 rfl (Or.inr ⟨_, rfl⟩) k) ?_
  refine S_getfield d_Mo_fits_59 fg_Mo_15 (w373 _) rfl ?_
  refine ST.lift (fun _ _ k => T_iload_n d_Mo_fits_62 rfl k) ?_
  refine ST.lift (fun _ _ k => T_iload d_Mo_fits_63 rfl k) ?_
  refine S_iaddN d_Mo_fits_65 ?_
  refine S_topi (y := nI 6) (by decide) ?_
  refine ST.lift (fun _ _ k => T_dup2 d_Mo_fits_66 rfl rfl k) ?_
  refine S_laload d_Mo_fits_67 a378 (vp_in_nI (by omega) (by omega)) (fun z71 => ?_)
  refine ST.lift (fun _ _ k => T_aload_n (v := .ref 373) d_Mo_fits_68 rfl (Or.inr ⟨_, rfl⟩) k) ?_
  refine S_getfield d_Mo_fits_69 fg_Mo_22 (w373 _) rfl ?_
  refine ST.lift (fun _ _ k => T_iload_n d_Mo_fits_72 rfl k) ?_
  refine S_laload d_Mo_fits_73 a377 (vp_in_nI (by omega) (by omega)) (fun z72 => ?_)
  refine ST.lift (fun _ _ k => T_aload_n (v := .ref 373) d_Mo_fits_74 rfl (Or.inr ⟨_, rfl⟩) k) ?_
  refine S_getfield d_Mo_fits_75 fg_Mo_22 (w373 _) rfl ?_
  refine ST.lift (fun _ _ k => T_iload d_Mo_fits_78 rfl k) ?_
  refine S_laload d_Mo_fits_80 a377 (vp_in_nI (by omega) (by omega)) (fun z73 => ?_)
  refine ST.lift (fun _ _ k => T_lmul d_Mo_fits_81 k) (S_anyl fun z74 => ?_)
  refine ST.lift (fun _ _ k => T_ladd d_Mo_fits_82 k) (S_anyl fun z75 => ?_)
  refine S_lastore d_Mo_fits_83 (by decide) a378 (vp_in_nI (by omega) (by omega)) ?_
  refine S_iincN (a := 4) (b := 1) (L' := [(4, .int (nI 5)), (3, .int (nI 2)), (0, .ref 373), (1, .int n), (2, .int (nI cubed))]) d_Mo_fits_84 (by decide) rfl rfl rfl ?_
  refine ST.lift (fun _ _ k => T_goto (tgt := 52) d_Mo_fits_87 rfl k) ?_
  refine ST.lift (fun _ _ k => T_iload d_Mo_fits_52 rfl k) ?_
  refine ST.lift (fun _ _ k => T_iconst (v := nI 5) d_Mo_fits_54 (by decide) k) ?_
  refine S_icmp_geN d_Mo_fits_55 rfl (by omega) (by omega) (fun _ => ?_) (fun c => by first | exact absurd c (by omega) | exact c.elim | exact absurd c (by decide) | exact absurd (by assumption) c | exact absurd c (by assumption))
  refine S_iincN (a := 2) (b := 1) (L' := [(3, .int (nI 3)), (4, .int (nI 5)), (0, .ref 373), (1, .int n), (2, .int (nI cubed))]) d_Mo_fits_90 (by decide) rfl rfl rfl ?_
  refine ST.lift (fun _ _ k => T_goto (tgt := 44) d_Mo_fits_93 rfl k) ?_
  refine ST.lift (fun _ _ k => T_iload_n d_Mo_fits_44 rfl k) ?_
  refine ST.lift (fun _ _ k => T_iconst (v := nI 5) d_Mo_fits_45 (by decide) k) ?_
  refine S_icmp_geN d_Mo_fits_46 rfl (by omega) (by omega) (fun c => by first | exact absurd c (by omega) | exact c.elim | exact absurd c (by decide) | exact absurd (by assumption) c | exact absurd c (by assumption)) (fun _ => ?_)
  refine ST.lift (fun _ _ k => T_iconst (v := nI 0) d_Mo_fits_49 (by decide) k) ?_
  refine ST.lift (fun _ _ k => T_istore (L' := [(4, .int (nI 0)), (3, .int (nI 3)), (0, .ref 373), (1, .int n), (2, .int (nI cubed))]) d_Mo_fits_50 (by decide) rfl k) ?_
  refine ST.lift (fun _ _ k => T_iload d_Mo_fits_52 rfl k) ?_
  refine ST.lift (fun _ _ k => T_iconst (v := nI 5) d_Mo_fits_54 (by decide) k) ?_
  refine S_icmp_geN d_Mo_fits_55 rfl (by omega) (by omega) (fun c => by first | exact absurd c (by omega) | exact c.elim | exact absurd c (by decide) | exact absurd (by assumption) c | exact absurd c (by assumption)) (fun _ => ?_)
  refine ST.lift (fun _ _ k => T_aload_n (v := .ref 373) d_Mo_fits_58 rfl (Or.inr ⟨_, rfl⟩) k) ?_
  refine S_getfield d_Mo_fits_59 fg_Mo_15 (w373 _) rfl ?_
  refine ST.lift (fun _ _ k => T_iload_n d_Mo_fits_62 rfl k) ?_
  refine ST.lift (fun _ _ k => T_iload d_Mo_fits_63 rfl k) ?_
  refine S_iaddN d_Mo_fits_65 ?_
  refine S_topi (y := nI 3) (by decide) ?_
  refine ST.lift (fun _ _ k => T_dup2 d_Mo_fits_66 rfl rfl k) ?_
  refine S_laload d_Mo_fits_67 a378 (vp_in_nI (by omega) (by omega)) (fun z76 => ?_)
  refine ST.lift (fun _ _ k => T_aload_n (v := .ref 373) d_Mo_fits_68 rfl (Or.inr ⟨_, rfl⟩) k) ?_
  refine S_getfield d_Mo_fits_69 fg_Mo_22 (w373 _) rfl ?_
  refine ST.lift (fun _ _ k => T_iload_n d_Mo_fits_72 rfl k) ?_
  refine S_laload d_Mo_fits_73 a377 (vp_in_nI (by omega) (by omega)) (fun z77 => ?_)
  refine ST.lift (fun _ _ k => T_aload_n (v := .ref 373) d_Mo_fits_74 rfl (Or.inr ⟨_, rfl⟩) k) ?_
  refine S_getfield d_Mo_fits_75 fg_Mo_22 (w373 _) rfl ?_
  refine ST.lift (fun _ _ k => T_iload d_Mo_fits_78 rfl k) ?_
  refine S_laload d_Mo_fits_80 a377 (vp_in_nI (by omega) (by omega)) (fun z78 => ?_)
  refine ST.lift (fun _ _ k => T_lmul d_Mo_fits_81 k) (S_anyl fun z79 => ?_)
  refine ST.lift (fun _ _ k => T_ladd d_Mo_fits_82 k) (S_anyl fun z80 => ?_)
  refine S_lastore d_Mo_fits_83 (by decide) a378 (vp_in_nI (by omega) (by omega)) ?_
  refine S_iincN (a := 0) (b := 1) (L' := [(4, .int (nI 1)), (3, .int (nI 3)), (0, .ref 373), (1, .int n), (2, .int (nI cubed))]) d_Mo_fits_84 (by decide) rfl rfl rfl ?_
  refine ST.lift (fun _ _ k => T_goto (tgt := 52) d_Mo_fits_87 rfl k) ?_
  refine ST.lift (fun _ _ k => T_iload d_Mo_fits_52 rfl k) ?_
  refine ST.lift (fun _ _ k => T_iconst (v := nI 5) d_Mo_fits_54 (by decide) k) ?_
  refine S_icmp_geN d_Mo_fits_55 rfl (by omega) (by omega) (fun c => by first | exact absurd c (by omega) | exact c.elim | exact absurd c (by decide) | exact absurd (by assumption) c | exact absurd c (by assumption)) (fun _ => ?_)
  refine ST.lift (fun _ _ k => T_aload_n (v := .ref 373) d_Mo_fits_58 rfl (Or.inr ⟨_, rfl⟩) k) ?_
  refine S_getfield d_Mo_fits_59 fg_Mo_15 (w373 _) rfl ?_
  refine ST.lift (fun _ _ k => T_iload_n d_Mo_fits_62 rfl k) ?_
  refine ST.lift (fun _ _ k => T_iload d_Mo_fits_63 rfl k) ?_
  refine S_iaddN d_Mo_fits_65 ?_
  refine S_topi (y := nI 4) (by decide) ?_
  refine ST.lift (fun _ _ k => T_dup2 d_Mo_fits_66 rfl rfl k) ?_
  refine S_laload d_Mo_fits_67 a378 (vp_in_nI (by omega) (by omega)) (fun z81 => ?_)
  refine ST.lift (fun _ _ k => T_aload_n (v := .ref 373) d_Mo_fits_68 rfl (Or.inr ⟨_, rfl⟩) k) ?_
  refine S_getfield d_Mo_fits_69 fg_Mo_22 (w373 _) rfl ?_
  refine ST.lift (fun _ _ k => T_iload_n d_Mo_fits_72 rfl k) ?_
  refine S_laload d_Mo_fits_73 a377 (vp_in_nI (by omega) (by omega)) (fun z82 => ?_)
  refine ST.lift (fun _ _ k => T_aload_n (v := .ref 373) d_Mo_fits_74 rfl (Or.inr ⟨_, rfl⟩) k) ?_
  refine S_getfield d_Mo_fits_75 fg_Mo_22 (w373 _) rfl ?_
  refine ST.lift (fun _ _ k => T_iload d_Mo_fits_78 rfl k) ?_
  refine S_laload d_Mo_fits_80 a377 (vp_in_nI (by omega) (by omega)) (fun z83 => ?_)
  refine ST.lift (fun _ _ k => T_lmul d_Mo_fits_81 k) (S_anyl fun z84 => ?_)
  refine ST.lift (fun _ _ k => T_ladd d_Mo_fits_82 k) (S_anyl fun z85 => ?_)
  refine S_lastore d_Mo_fits_83 (by decide) a378 (vp_in_nI (by omega) (by omega)) ?_
  refine S_iincN (a := 1) (b := 1) (L' := [(4, .int (nI 2)), (3, .int (nI 3)), (0, .ref 373), (1, .int n), (2, .int (nI cubed))]) d_Mo_fits_84 (by decide) rfl rfl rfl ?_
  refine ST.lift (fun _ _ k => T_goto (tgt := 52) d_Mo_fits_87 rfl k) ?_
  refine ST.lift (fun _ _ k => T_iload d_Mo_fits_52 rfl k) ?_
  refine ST.lift (fun _ _ k => T_iconst (v := nI 5) d_Mo_fits_54 (by decide) k) ?_
  refine S_icmp_geN d_Mo_fits_55 rfl (by omega) (by omega) (fun c => by first | exact absurd c (by omega) | exact c.elim | exact absurd c (by decide) | exact absurd (by assumption) c | exact absurd c (by assumption)) (fun _ => ?_)
  refine ST.lift (fun _ _ k => T_aload_n (v := .ref 373) d_Mo_fits_58 rfl (Or.inr ⟨_, rfl⟩) k) ?_
  refine S_getfield d_Mo_fits_59 fg_Mo_15 (w373 _) rfl ?_
  refine ST.lift (fun _ _ k => T_iload_n d_Mo_fits_62 rfl k) ?_
  refine ST.lift (fun _ _ k => T_iload d_Mo_fits_63 rfl k) ?_
  refine S_iaddN d_Mo_fits_65 ?_
  refine S_topi (y := nI 5) (by decide) ?_
  refine ST.lift (fun _ _ k => T_dup2 d_Mo_fits_66 rfl rfl k) ?_
  refine S_laload d_Mo_fits_67 a378 (vp_in_nI (by omega) (by omega)) (fun z86 => ?_)
  refine ST.lift (fun _ _ k => T_aload_n (v := .ref 373) d_Mo_fits_68 rfl (Or.inr ⟨_, rfl⟩) k) ?_
  refine S_getfield d_Mo_fits_69 fg_Mo_22 (w373 _) rfl ?_
  refine ST.lift (fun _ _ k => T_iload_n d_Mo_fits_72 rfl k) ?_
  refine S_laload d_Mo_fits_73 a377 (vp_in_nI (by omega) (by omega)) (fun z87 => ?_)
  refine ST.lift (fun _ _ k => T_aload_n (v := .ref 373) d_Mo_fits_74 rfl (Or.inr ⟨_, rfl⟩) k) ?_
  refine S_getfield d_Mo_fits_75 fg_Mo_22 (w373 _) rfl ?_
  refine ST.lift (fun _ _ k => T_iload d_Mo_fits_78 rfl k) ?_
  refine S_laload d_Mo_fits_80 a377 (vp_in_nI (by omega) (by omega)) (fun z88 => ?_)
  refine ST.lift (fun _ _ k => T_lmul d_Mo_fits_81 k) (S_anyl fun z89 => ?_)
  refine ST.lift (fun _ _ k => T_ladd d_Mo_fits_82 k) (S_anyl fun z90 => ?_)
  refine S_lastore d_Mo_fits_83 (by decide) a378 (vp_in_nI (by omega) (by omega)) ?_
  refine S_iincN (a := 2) (b := 1) (L' := [(4, .int (nI 3)), (3, .int (nI 3)), (0, .ref 373), (1, .int n), (2, .int (nI cubed))]) d_Mo_fits_84 (by decide) rfl rfl rfl ?_
  refine ST.lift (fun _ _ k => T_goto (tgt := 52) d_Mo_fits_87 rfl k) ?_
  refine ST.lift (fun _ _ k => T_iload d_Mo_fits_52 rfl k) ?_
  refine ST.lift (fun _ _ k => T_iconst (v := nI 5) d_Mo_fits_54 (by decide) k) ?_
  refine S_icmp_geN d_Mo_fits_55 rfl (by omega) (by omega) (fun c => by first | exact absurd c (by omega) | exact c.elim | exact absurd c (by decide) | exact absurd (by assumption) c | exact absurd c (by assumption)) (fun _ => ?_)
  refine ST.lift (fun _ _ k => T_aload_n (v := .ref 373) d_Mo_fits_58 rfl (Or.inr ⟨_, rfl⟩) k) ?_
  refine S_getfield d_Mo_fits_59 fg_Mo_15 (w373 _) rfl ?_
  refine ST.lift (fun _ _ k => T_iload_n d_Mo_fits_62 rfl k) ?_
  refine ST.lift (fun _ _ k => T_iload d_Mo_fits_63 rfl k) ?_
  refine S_iaddN d_Mo_fits_65 ?_
  refine S_topi (y := nI 6) (by decide) ?_
  refine ST.lift (fun _ _ k => T_dup2 d_Mo_fits_66 rfl rfl k) ?_
  refine S_laload d_Mo_fits_67 a378 (vp_in_nI (by omega) (by omega)) (fun z91 => ?_)
  refine ST.lift (fun _ _ k => T_aload_n (v := .ref 373) d_Mo_fits_68 rfl (Or.inr ⟨_, rfl⟩) k) ?_
  refine S_getfield d_Mo_fits_69 fg_Mo_22 (w373 _) rfl ?_
  refine ST.lift (fun _ _ k => T_iload_n d_Mo_fits_72 rfl k) ?_
  refine S_laload d_Mo_fits_73 a377 (vp_in_nI (by omega) (by omega)) (fun z92 => ?_)
  refine ST.lift (fun _ _ k => T_aload_n (v := .ref 373) d_Mo_fits_74 rfl (Or.inr ⟨_, rfl⟩) k) ?_
  refine S_getfield d_Mo_fits_75 fg_Mo_22 (w373 _) rfl ?_
  refine ST.lift (fun _ _ k => T_iload d_Mo_fits_78 rfl k) ?_
  refine S_laload d_Mo_fits_80 a377 (vp_in_nI (by omega) (by omega)) (fun z93 => ?_)
  refine ST.lift (fun _ _ k => T_lmul d_Mo_fits_81 k) (S_anyl fun z94 => ?_)
  refine ST.lift (fun _ _ k => T_ladd d_Mo_fits_82 k) (S_anyl fun z95 => ?_)
  refine S_lastore d_Mo_fits_83 (by decide) a378 (vp_in_nI (by omega) (by omega)) ?_
  refine S_iincN (a := 3) (b := 1) (L' := [(4, .int (nI 4)), (3, .int (nI 3)), (0, .ref 373), (1, .int n), (2, .int (nI cubed))]) d_Mo_fits_84 (by decide) rfl rfl rfl ?_
  refine ST.lift (fun _ _ k => T_goto (tgt := 52) d_Mo_fits_87 rfl k) ?_
  refine ST.lift (fun _ _ k => T_iload d_Mo_fits_52 rfl k) ?_
  refine ST.lift (fun _ _ k => T_iconst (v := nI 5) d_Mo_fits_54 (by decide) k) ?_
  refine S_icmp_geN d_Mo_fits_55 rfl (by omega) (by omega) (fun c => by first | exact absurd c (by omega) | exact c.elim | exact absurd c (by decide) | exact absurd (by assumption) c | exact absurd c (by assumption)) (fun _ => ?_)
  refine ST.lift (fun _ _ k => T_aload_n (v := .ref 373) d_Mo_fits_58 rfl (Or.inr ⟨_, rfl⟩) k) ?_
  refine S_getfield d_Mo_fits_59 fg_Mo_15 (w373 _) rfl ?_
  refine ST.lift (fun _ _ k => T_iload_n d_Mo_fits_62 rfl k) ?_
  refine ST.lift (fun _ _ k => T_iload d_Mo_fits_63 rfl k) ?_
  refine S_iaddN d_Mo_fits_65 ?_
  refine S_topi (y := nI 7) (by decide) ?_
  refine ST.lift (fun _ _ k => T_dup2 d_Mo_fits_66 rfl rfl k) ?_
  refine S_laload d_Mo_fits_67 a378 (vp_in_nI (by omega) (by omega)) (fun z96 => ?_)
  refine ST.lift (fun _ _ k => T_aload_n (v := .ref 373) d_Mo_fits_68 rfl (Or.inr ⟨_, rfl⟩) k) ?_
  refine S_getfield d_Mo_fits_69 fg_Mo_22 (w373 _) rfl ?_
  refine ST.lift (fun _ _ k => T_iload_n d_Mo_fits_72 rfl k) ?_
  refine S_laload d_Mo_fits_73 a377 (vp_in_nI (by omega) (by omega)) (fun z97 => ?_)
  refine ST.lift (fun _ _ k => T_aload_n (v := .ref 373) d_Mo_fits_74 rfl (Or.inr ⟨_, rfl⟩) k) ?_
  refine S_getfield d_Mo_fits_75 fg_Mo_22 (w373 _) rfl ?_
  refine ST.lift (fun _ _ k => T_iload d_Mo_fits_78 rfl k) ?_
  refine S_laload d_Mo_fits_80 a377 (vp_in_nI (by omega) (by omega)) (fun z98 => ?_)
  refine ST.lift (fun _ _ k => T_lmul d_Mo_fits_81 k) (S_anyl fun z99 => ?_)
  refine ST.lift (fun _ _ k => T_ladd d_Mo_fits_82 k) (S_anyl fun z100 => ?_)
  refine S_lastore d_Mo_fits_83 (by decide) a378 (vp_in_nI (by omega) (by omega)) ?_
  refine S_iincN (a := 4) (b := 1) (L' := [(4, .int (nI 5)), (3, .int (nI 3)), (0, .ref 373), (1, .int n), (2, .int (nI cubed))]) d_Mo_fits_84 (by decide) rfl rfl rfl ?_
  refine ST.lift (fun _ _ k => T_goto (tgt := 52) d_Mo_fits_87 rfl k) ?_
  refine ST.lift (fun _ _ k => T_iload d_Mo_fits_52 rfl k) ?_
  refine ST.lift (fun _ _ k => T_iconst (v := nI 5) d_Mo_fits_54 (by decide) k) ?_
  refine S_icmp_geN d_Mo_fits_55 rfl (by omega) (by omega) (fun _ => ?_) (fun c => by first | exact absurd c (by omega) | exact c.elim | exact absurd c (by decide) | exact absurd (by assumption) c | exact absurd c (by assumption))
  refine S_iincN (a := 3) (b := 1) (L' := [(3, .int (nI 4)), (4, .int (nI 5)), (0, .ref 373), (1, .int n), (2, .int (nI cubed))]) d_Mo_fits_90 (by decide) rfl rfl rfl ?_
  refine ST.lift (fun _ _ k => T_goto (tgt := 44) d_Mo_fits_93 rfl k) ?_
  refine ST.lift (fun _ _ k => T_iload_n d_Mo_fits_44 rfl k) ?_
  refine ST.lift (fun _ _ k => T_iconst (v := nI 5) d_Mo_fits_45 (by decide) k) ?_
  refine S_icmp_geN d_Mo_fits_46 rfl (by omega) (by omega) (fun c => by first | exact absurd c (by omega) | exact c.elim | exact absurd c (by decide) | exact absurd (by assumption) c | exact absurd c (by assumption)) (fun _ => ?_)
  refine ST.lift (fun _ _ k => T_iconst (v := nI 0) d_Mo_fits_49 (by decide) k) ?_
  refine ST.lift (fun _ _ k => T_istore (L' := [(4, .int (nI 0)), (3, .int (nI 4)), (0, .ref 373), (1, .int n), (2, .int (nI cubed))]) d_Mo_fits_50 (by decide) rfl k) ?_
  refine ST.lift (fun _ _ k => T_iload d_Mo_fits_52 rfl k) ?_
  refine ST.lift (fun _ _ k => T_iconst (v := nI 5) d_Mo_fits_54 (by decide) k) ?_
  refine S_icmp_geN d_Mo_fits_55 rfl (by omega) (by omega) (fun c => by first | exact absurd c (by omega) | exact c.elim | exact absurd c (by decide) | exact absurd (by assumption) c | exact absurd c (by assumption)) (fun _ => ?_)
  refine ST.lift (fun _ _ k => T_aload_n (v := .ref 373) d_Mo_fits_58 rfl (Or.inr ⟨_, rfl⟩) k) ?_
  refine S_getfield d_Mo_fits_59 fg_Mo_15 (w373 _) rfl ?_
  refine ST.lift (fun _ _ k => T_iload_n d_Mo_fits_62 rfl k) ?_
  refine ST.lift (fun _ _ k => T_iload d_Mo_fits_63 rfl k) ?_
  refine S_iaddN d_Mo_fits_65 ?_
  refine S_topi (y := nI 4) (by decide) ?_
  refine ST.lift (fun _ _ k => T_dup2 d_Mo_fits_66 rfl rfl k) ?_
  refine S_laload d_Mo_fits_67 a378 (vp_in_nI (by omega) (by omega)) (fun z101 => ?_)
  refine ST.lift (fun _ _ k => T_aload_n (v := .ref 373) d_Mo_fits_68 rfl (Or.inr ⟨_, rfl⟩) k) ?_
  refine S_getfield d_Mo_fits_69 fg_Mo_22 (w373 _) rfl ?_
  refine ST.lift (fun _ _ k => T_iload_n d_Mo_fits_72 rfl k) ?_
  refine S_laload d_Mo_fits_73 a377 (vp_in_nI (by omega) (by omega)) (fun z102 => ?_)
  refine ST.lift (fun _ _ k => T_aload_n (v := .ref 373) d_Mo_fits_74 rfl (Or.inr ⟨_, rfl⟩) k) ?_
  refine S_getfield d_Mo_fits_75 fg_Mo_22 (w373 _) rfl ?_
  refine ST.lift (fun _ _ k => T_iload d_Mo_fits_78 rfl k) ?_
  refine S_laload d_Mo_fits_80 a377 (vp_in_nI (by omega) (by omega)) (fun z103 => ?_)
  refine ST.lift (fun _ _ k => T_lmul d_Mo_fits_81 k) (S_anyl fun z104 => ?_)
  refine ST.lift (fun _ _ k => T_ladd d_Mo_fits_82 k) (S_anyl fun z105 => ?_)
  refine S_lastore d_Mo_fits_83 (by decide) a378 (vp_in_nI (by omega) (by omega)) ?_
  refine S_iincN (a := 0) (b := 1) (L' := [(4, .int (nI 1)), (3, .int (nI 4)), (0, .ref 373), (1, .int n), (2, .int (nI cubed))]) d_Mo_fits_84 (by decide) rfl rfl rfl ?_
  refine ST.lift (fun _ _ k => T_goto (tgt := 52) d_Mo_fits_87 rfl k) ?_
  refine ST.lift (fun _ _ k => T_iload d_Mo_fits_52 rfl k) ?_
  refine ST.lift (fun _ _ k => T_iconst (v := nI 5) d_Mo_fits_54 (by decide) k) ?_
  refine S_icmp_geN d_Mo_fits_55 rfl (by omega) (by omega) (fun c => by first | exact absurd c (by omega) | exact c.elim | exact absurd c (by decide) | exact absurd (by assumption) c | exact absurd c (by assumption)) (fun _ => ?_)
  refine ST.lift (fun _ _ k => T_aload_n (v := .ref 373) d_Mo_fits_58 rfl (Or.inr ⟨_, rfl⟩) k) ?_
  refine S_getfield d_Mo_fits_59 fg_Mo_15 (w373 _) rfl ?_
  refine ST.lift (fun _ _ k => T_iload_n d_Mo_fits_62 rfl k) ?_
  refine ST.lift (fun _ _ k => T_iload d_Mo_fits_63 rfl k) ?_
  refine S_iaddN d_Mo_fits_65 ?_
  refine S_topi (y := nI 5) (by decide) ?_
  refine ST.lift (fun _ _ k => T_dup2 d_Mo_fits_66 rfl rfl k) ?_
  refine S_laload d_Mo_fits_67 a378 (vp_in_nI (by omega) (by omega)) (fun z106 => ?_)
  refine ST.lift (fun _ _ k => T_aload_n (v := .ref 373) d_Mo_fits_68 rfl (Or.inr ⟨_, rfl⟩) k) ?_
  refine S_getfield d_Mo_fits_69 fg_Mo_22 (w373 _) rfl ?_
  refine ST.lift (fun _ _ k => T_iload_n d_Mo_fits_72 rfl k) ?_
  refine S_laload d_Mo_fits_73 a377 (vp_in_nI (by omega) (by omega)) (fun z107 => ?_)
  refine ST.lift (fun _ _ k => T_aload_n (v := .ref 373) d_Mo_fits_74 rfl (Or.inr ⟨_, rfl⟩) k) ?_
  refine S_getfield d_Mo_fits_75 fg_Mo_22 (w373 _) rfl ?_
  refine ST.lift (fun _ _ k => T_iload d_Mo_fits_78 rfl k) ?_
  refine S_laload d_Mo_fits_80 a377 (vp_in_nI (by omega) (by omega)) (fun z108 => ?_)
  refine ST.lift (fun _ _ k => T_lmul d_Mo_fits_81 k) (S_anyl fun z109 => ?_)
  refine ST.lift (fun _ _ k => T_ladd d_Mo_fits_82 k) (S_anyl fun z110 => ?_)
  refine S_lastore d_Mo_fits_83 (by decide) a378 (vp_in_nI (by omega) (by omega)) ?_
  refine S_iincN (a := 1) (b := 1) (L' := [(4, .int (nI 2)), (3, .int (nI 4)), (0, .ref 373), (1, .int n), (2, .int (nI cubed))]) d_Mo_fits_84 (by decide) rfl rfl rfl ?_
  refine ST.lift (fun _ _ k => T_goto (tgt := 52) d_Mo_fits_87 rfl k) ?_
  refine ST.lift (fun _ _ k => T_iload d_Mo_fits_52 rfl k) ?_
  refine ST.lift (fun _ _ k => T_iconst (v := nI 5) d_Mo_fits_54 (by decide) k) ?_
  refine S_icmp_geN d_Mo_fits_55 rfl (by omega) (by omega) (fun c => by first | exact absurd c (by omega) | exact c.elim | exact absurd c (by decide) | exact absurd (by assumption) c | exact absurd c (by assumption)) (fun _ => ?_)
  refine ST.lift (fun _ _ k => T_aload_n (v := .ref 373) d_Mo_fits_58 rfl (Or.inr ⟨_, rfl⟩) k) ?_
  refine S_getfield d_Mo_fits_59 fg_Mo_15 (w373 _) rfl ?_
  refine ST.lift (fun _ _ k => T_iload_n d_Mo_fits_62 rfl k) ?_
  refine ST.lift (fun _ _ k => T_iload d_Mo_fits_63 rfl k) ?_
  refine S_iaddN d_Mo_fits_65 ?_
  refine S_topi (y := nI 6) (by decide) ?_
  refine ST.lift (fun _ _ k => T_dup2 d_Mo_fits_66 rfl rfl k) ?_
  refine S_laload d_Mo_fits_67 a378 (vp_in_nI (by omega) (by omega)) (fun z111 => ?_)
  refine ST.lift (fun _ _ k => T_aload_n (v := .ref 373) d_Mo_fits_68 rfl (Or.inr ⟨_, rfl⟩) k) ?_
  refine S_getfield d_Mo_fits_69 fg_Mo_22 (w373 _) rfl ?_
  refine ST.lift (fun _ _ k => T_iload_n d_Mo_fits_72 rfl k) ?_
  refine S_laload d_Mo_fits_73 a377 (vp_in_nI (by omega) (by omega)) (fun z112 => ?_)
  refine ST.lift (fun _ _ k => T_aload_n (v := .ref 373) d_Mo_fits_74 rfl (Or.inr ⟨_, rfl⟩) k) ?_
  refine S_getfield d_Mo_fits_75 fg_Mo_22 (w373 _) rfl ?_
  refine ST.lift (fun _ _ k => T_iload d_Mo_fits_78 rfl k) ?_
  refine S_laload d_Mo_fits_80 a377 (vp_in_nI (by omega) (by omega)) (fun z113 => ?_)
  refine ST.lift (fun _ _ k => T_lmul d_Mo_fits_81 k) (S_anyl fun z114 => ?_)
  refine ST.lift (fun _ _ k => T_ladd d_Mo_fits_82 k) (S_anyl fun z115 => ?_)
  refine S_lastore d_Mo_fits_83 (by decide) a378 (vp_in_nI (by omega) (by omega)) ?_
  refine S_iincN (a := 2) (b := 1) (L' := [(4, .int (nI 3)), (3, .int (nI 4)), (0, .ref 373), (1, .int n), (2, .int (nI cubed))]) d_Mo_fits_84 (by decide) rfl rfl rfl ?_
  refine ST.lift (fun _ _ k => T_goto (tgt := 52) d_Mo_fits_87 rfl k) ?_
  refine ST.lift (fun _ _ k => T_iload d_Mo_fits_52 rfl k) ?_
  refine ST.lift (fun _ _ k => T_iconst (v := nI 5) d_Mo_fits_54 (by decide) k) ?_
  refine S_icmp_geN d_Mo_fits_55 rfl (by omega) (by omega) (fun c => by first | exact absurd c (by omega) | exact c.elim | exact absurd c (by decide) | exact absurd (by assumption) c | exact absurd c (by assumption)) (fun _ => ?_)
  refine ST.lift (fun _ _ k => T_aload_n (v := .ref 373) d_Mo_fits_58 rfl (Or.inr ⟨_, rfl⟩) k) ?_
  refine S_getfield d_Mo_fits_59 fg_Mo_15 (w373 _) rfl ?_
  refine ST.lift (fun _ _ k => T_iload_n d_Mo_fits_62 rfl k) ?_
  refine ST.lift (fun _ _ k => T_iload d_Mo_fits_63 rfl k) ?_
  refine S_iaddN d_Mo_fits_65 ?_
  refine S_topi (y := nI 7) (by decide) ?_
  refine ST.lift (fun _ _ k => T_dup2 d_Mo_fits_66 rfl rfl k) ?_
  refine S_laload d_Mo_fits_67 a378 (vp_in_nI (by omega) (by omega)) (fun z116 => ?_)
  refine ST.lift (fun _ _ k => T_aload_n (v := .ref 373) d_Mo_fits_68 rfl (Or.inr ⟨_, rfl⟩) k) ?_
  refine S_getfield d_Mo_fits_69 fg_Mo_22 (w373 _) rfl ?_
  refine ST.lift (fun _ _ k => T_iload_n d_Mo_fits_72 rfl k) ?_
  refine S_laload d_Mo_fits_73 a377 (vp_in_nI (by omega) (by omega)) (fun z117 => ?_)
  refine ST.lift (fun _ _ k => T_aload_n (v := .ref 373) d_Mo_fits_74 rfl (Or.inr ⟨_, rfl⟩) k) ?_
  refine S_getfield d_Mo_fits_75 fg_Mo_22 (w373 _) rfl ?_
  refine ST.lift (fun _ _ k => T_iload d_Mo_fits_78 rfl k) ?_
  refine S_laload d_Mo_fits_80 a377 (vp_in_nI (by omega) (by omega)) (fun z118 => ?_)
  refine ST.lift (fun _ _ k => T_lmul d_Mo_fits_81 k) (S_anyl fun z119 => ?_)
  refine ST.lift (fun _ _ k => T_ladd d_Mo_fits_82 k) (S_anyl fun z120 => ?_)
  refine S_lastore d_Mo_fits_83 (by decide) a378 (vp_in_nI (by omega) (by omega)) ?_
  refine S_iincN (a := 3) (b := 1) (L' := [(4, .int (nI 4)), (3, .int (nI 4)), (0, .ref 373), (1, .int n), (2, .int (nI cubed))]) d_Mo_fits_84 (by decide) rfl rfl rfl ?_
  refine ST.lift (fun _ _ k => T_goto (tgt := 52) d_Mo_fits_87 rfl k) ?_
  refine ST.lift (fun _ _ k => T_iload d_Mo_fits_52 rfl k) ?_
  refine ST.lift (fun _ _ k => T_iconst (v := nI 5) d_Mo_fits_54 (by decide) k) ?_
  refine S_icmp_geN d_Mo_fits_55 rfl (by omega) (by omega) (fun c => by first | exact absurd c (by omega) | exact c.elim | exact absurd c (by decide) | exact absurd (by assumption) c | exact absurd c (by assumption)) (fun _ => ?_)
  refine ST.lift (fun _ _ k => T_aload_n (v := .ref 373) d_Mo_fits_58 rfl (Or.inr ⟨_, rfl⟩) k) ?_
  refine S_getfield d_Mo_fits_59 fg_Mo_15 (w373 _) rfl ?_
  refine ST.lift (fun _ _ k => T_iload_n d_Mo_fits_62 rfl k) ?_
  refine ST.lift (fun _ _ k => T_iload d_Mo_fits_63 rfl k) ?_
  refine S_iaddN d_Mo_fits_65 ?_
  refine S_topi (y := nI 8) (by decide) ?_
  refine ST.lift (fun _ _ k => T_dup2 d_Mo_fits_66 rfl rfl k) ?_
  refine S_laload d_Mo_fits_67 a378 (vp_in_nI (by omega) (by omega)) (fun z121 => ?_)
  refine ST.lift (fun _ _ k => T_aload_n (v := .ref 373) d_Mo_fits_68 rfl (Or.inr ⟨_, rfl⟩) k) ?_
  refine S_getfield d_Mo_fits_69 fg_Mo_22 (w373 _) rfl ?_
  refine ST.lift (fun _ _ k => T_iload_n d_Mo_fits_72 rfl k) ?_
  refine S_laload d_Mo_fits_73 a377 (vp_in_nI (by omega) (by omega)) (fun z122 => ?_)
  refine ST.lift (fun _ _ k => T_aload_n (v := .ref 373) d_Mo_fits_74 rfl (Or.inr ⟨_, rfl⟩) k) ?_
  refine S_getfield d_Mo_fits_75 fg_Mo_22 (w373 _) rfl ?_
  refine ST.lift (fun _ _ k => T_iload d_Mo_fits_78 rfl k) ?_
  refine S_laload d_Mo_fits_80 a377 (vp_in_nI (by omega) (by omega)) (fun z123 => ?_)
  refine ST.lift (fun _ _ k => T_lmul d_Mo_fits_81 k) (S_anyl fun z124 => ?_)
  refine ST.lift (fun _ _ k => T_ladd d_Mo_fits_82 k) (S_anyl fun z125 => ?_)
  refine S_lastore d_Mo_fits_83 (by decide) a378 (vp_in_nI (by omega) (by omega)) ?_
  refine S_iincN (a := 4) (b := 1) (L' := [(4, .int (nI 5)), (3, .int (nI 4)), (0, .ref 373), (1, .int n), (2, .int (nI cubed))]) d_Mo_fits_84 (by decide) rfl rfl rfl ?_
  refine ST.lift (fun _ _ k => T_goto (tgt := 52) d_Mo_fits_87 rfl k) ?_
  refine ST.lift (fun _ _ k => T_iload d_Mo_fits_52 rfl k) ?_
  refine ST.lift (fun _ _ k => T_iconst (v := nI 5) d_Mo_fits_54 (by decide) k) ?_
  refine S_icmp_geN d_Mo_fits_55 rfl (by omega) (by omega) (fun _ => ?_) (fun c => by first | exact absurd c (by omega) | exact c.elim | exact absurd c (by decide) | exact absurd (by assumption) c | exact absurd c (by assumption))
  refine S_iincN (a := 4) (b := 1) (L' := [(3, .int (nI 5)), (4, .int (nI 5)), (0, .ref 373), (1, .int n), (2, .int (nI cubed))]) d_Mo_fits_90 (by decide) rfl rfl rfl ?_
  refine ST.lift (fun _ _ k => T_goto (tgt := 44) d_Mo_fits_93 rfl k) ?_
  refine ST.lift (fun _ _ k => T_iload_n d_Mo_fits_44 rfl k) ?_
  refine ST.lift (fun _ _ k => T_iconst (v := nI 5) d_Mo_fits_45 (by decide) k) ?_
  refine S_icmp_geN d_Mo_fits_46 rfl (by omega) (by omega) (fun _ => ?_) (fun c => by first | exact absurd c (by omega) | exact c.elim | exact absurd c (by decide) | exact absurd (by assumption) c | exact absurd c (by assumption))
  refine ST.lift (fun _ _ k => T_aload_n (v := .ref 373) d_Mo_fits_96 rfl (Or.inr ⟨_, rfl⟩) k) ?_
  refine S_getfield d_Mo_fits_97 fg_Mo_15 (w373 _) rfl ?_
  refine ST.lift (fun _ _ k => T_bipush (v := nI 12) d_Mo_fits_100 (by decide) k) ?_
  refine S_static (as := [.ref 378, .int (nI 12)]) (rest := []) d_Mo_fits_102 rfl (jw_Mo_carries.jo (by decide)) lm_Mo_25 jt_Mo_carries rfl (Nat.le_of_ble_eq_true rfl) (by decide) (by decide) (c_Mo_carries G v 378 12 (by decide) a378 (by omega) 12 (by omega)) (fun r v' hq => ?_)
  rw [hq.1, hq.2]
  clear hq r v'
  show ST G mi_Mo_fits 105 [(3, .int (nI 5)), (4, .int (nI 5)), (0, .ref 373), (1, .int n), (2, .int (nI cubed))] [] v 0 0 _
  refine ST.lift (fun _ _ k => T_bipush (v := nI 8) d_Mo_fits_105 (by decide) k) ?_
  refine ST.lift (fun _ _ k => T_istore_n (L' := [(3, .int (nI 8)), (4, .int (nI 5)), (0, .ref 373), (1, .int n), (2, .int (nI cubed))]) d_Mo_fits_107 (by decide) rfl k) ?_
  refine ST.lift (fun _ _ k => T_iconst (v := nI 0) d_Mo_fits_108 (by decide) k) ?_
  refine ST.lift (fun _ _ k => T_istore (L' := [(4, .int (nI 0)), (3, .int (nI 8)), (0, .ref 373), (1, .int n), (2, .int (nI cubed))]) d_Mo_fits_109 (by decide) rfl k) ?_
  have lp129 : ∀ (n127 k126 : Nat), 12 - k126 = n127 → 0 ≤ k126 ∧ k126 ≤ 0 + 12 → ST G mi_Mo_fits 111 [(4, .int (nI k126)), (3, .int (nI 8)), (0, .ref 373), (1, .int n), (2, .int (nI cubed))] [] v 0 0 Q := by
    intro n127
    induction n127 using Nat.strongRecOn with
    | _ n127 ih128 =>
      intro k126 h130 h131
      refine ST.lift (fun _ _ k => T_iload d_Mo_fits_111 rfl k) ?_
      refine ST.lift (fun _ _ k => T_bipush (v := nI 12) d_Mo_fits_113 (by decide) k) ?_
      refine S_icmp_geN d_Mo_fits_115 rfl (by omega) (by omega) (fun c132 => ?_) (fun c132 => ?_)
      · refine ST.lift (fun _ _ k => T_iload_n d_Mo_fits_188 rfl k) ?_
        have J204_189 : ∀ (z188 : Nat) (hz188 : z188 ≤ 12), ST G mi_Mo_fits 204 [(4, .int (nI k126)), (3, .int (nI z188)), (0, .ref 373), (1, .int n), (2, .int (nI cubed))] [] v 0 0 Q := by
          intro z188 hz188
          refine ST.lift (fun _ _ k => T_iload_n d_Mo_fits_204 rfl k) ?_
          refine ST.lift (fun _ _ k => T_iconst (v := nI 1) d_Mo_fits_205 (by decide) k) ?_
          refine S_iaddN d_Mo_fits_206 ?_
          refine ST.lift (fun _ _ k => T_istore (L' := [(4, .int (nI (z188 + 1))), (3, .int (nI z188)), (0, .ref 373), (1, .int n), (2, .int (nI cubed))]) d_Mo_fits_207 (by decide) rfl k) ?_
          have lp193 : ∀ (n191 k190 : Nat), 20 - k190 = n191 → (z188 + 1) ≤ k190 ∧ k190 ≤ (z188 + 1) + 20 → ST G mi_Mo_fits 209 [(4, .int (nI k190)), (3, .int (nI z188)), (0, .ref 373), (1, .int n), (2, .int (nI cubed))] [] v 0 0 Q := by
            intro n191
            induction n191 using Nat.strongRecOn with
            | _ n191 ih192 =>
              intro k190 h194 h195
              refine ST.lift (fun _ _ k => T_iload d_Mo_fits_209 rfl k) ?_
              refine ST.lift (fun _ _ k => T_bipush (v := nI 20) d_Mo_fits_211 (by decide) k) ?_
              refine S_icmp_geN d_Mo_fits_213 rfl (by omega) (by omega) (fun c196 => ?_) (fun c196 => ?_)
              · refine ST.lift (fun _ _ k => T_aload_n (v := .ref 373) d_Mo_fits_236 rfl (Or.inr ⟨_, rfl⟩) k) ?_
                refine S_getfield d_Mo_fits_237 fg_Mo_19 (w373 _) rfl ?_
                refine ST.lift (fun _ _ k => T_iload_n d_Mo_fits_240 rfl k) ?_
                refine S_laload d_Mo_fits_241 a379 (vp_in_nI (by omega) (by omega)) (fun z197 => ?_)
                refine ST.lift (fun _ _ k => T_iload_n d_Mo_fits_242 rfl k) ?_
                refine ST.lift (fun _ _ k => T_i2l d_Mo_fits_243 k) (S_anyl fun z198 => ?_)
                refine ST.lift (fun _ _ k => T_lcmp d_Mo_fits_244 k) (S_anyi fun z199 => ?_)
                refine S_if_eq d_Mo_fits_245 rfl (fun c200 => ?_) (fun c200 => ?_)
                · refine ST.lift (fun _ _ k => T_iconst (v := nI 0) d_Mo_fits_266 (by decide) k) ?_
                  refine ST.lift (fun _ _ k => T_istore (L' := [(4, .int (nI 0)), (3, .int (nI z188)), (0, .ref 373), (1, .int n), (2, .int (nI cubed))]) d_Mo_fits_267 (by decide) rfl k) ?_
                  have lp204 : ∀ (n202 k201 : Nat), z188 - k201 = n202 → 0 ≤ k201 ∧ k201 ≤ 0 + z188 → ST G mi_Mo_fits 269 [(4, .int (nI k201)), (3, .int (nI z188)), (0, .ref 373), (1, .int n), (2, .int (nI cubed))] [] v 0 0 Q := by
                    intro n202
                    induction n202 using Nat.strongRecOn with
                    | _ n202 ih203 =>
                      intro k201 h205 h206
                      refine ST.lift (fun _ _ k => T_iload d_Mo_fits_269 rfl k) ?_
                      refine ST.lift (fun _ _ k => T_iload_n d_Mo_fits_271 rfl k) ?_
                      refine S_icmp_geN d_Mo_fits_272 rfl (by omega) (by omega) (fun c207 => ?_) (fun c207 => ?_)
                      · refine ST.lift (fun _ _ k => T_iconst (v := nI 1) d_Mo_fits_295 (by decide) k) ?_
                        exact S_ret d_Mo_fits_296 rfl (by decide) (by decide) (by decide) (hQ 1 (by decide))
                      · refine ST.lift (fun _ _ k => T_aload_n (v := .ref 373) d_Mo_fits_275 rfl (Or.inr ⟨_, rfl⟩) k) ?_
                        refine S_getfield d_Mo_fits_276 fg_Mo_19 (w373 _) rfl ?_
                        refine ST.lift (fun _ _ k => T_iload d_Mo_fits_279 rfl k) ?_
                        refine S_laload d_Mo_fits_281 a379 (vp_in_nI (by omega) (by omega)) (fun z208 => ?_)
                        refine ST.lift (fun _ _ k => T_lconst (v := 0) d_Mo_fits_282 (by decide) k) ?_
                        refine ST.lift (fun _ _ k => T_lcmp d_Mo_fits_283 k) (S_anyi fun z209 => ?_)
                        refine S_if_eq d_Mo_fits_284 rfl (fun c210 => ?_) (fun c210 => ?_)
                        · refine S_iincN (a := k201) (b := 1) (L' := [(4, .int (nI (k201 + 1))), (3, .int (nI z188)), (0, .ref 373), (1, .int n), (2, .int (nI cubed))]) d_Mo_fits_289 (by decide) rfl rfl rfl ?_
                          refine ST.lift (fun _ _ k => T_goto (tgt := 269) d_Mo_fits_292 rfl k) ?_
                          exact ih203 (z188 - (k201 + 1)) (by omega) (k201 + 1)  rfl (by omega)
                        · refine ST.lift (fun _ _ k => T_iconst (v := nI 0) d_Mo_fits_287 (by decide) k) ?_
                          exact S_ret d_Mo_fits_288 rfl (by decide) (by decide) (by decide) (hQ 0 (by decide))
                  exact lp204 _ 0  rfl (by omega)
                · refine ST.lift (fun _ _ k => T_aload_n (v := .ref 373) d_Mo_fits_248 rfl (Or.inr ⟨_, rfl⟩) k) ?_
                  refine S_getfield d_Mo_fits_249 fg_Mo_19 (w373 _) rfl ?_
                  refine ST.lift (fun _ _ k => T_iload_n d_Mo_fits_252 rfl k) ?_
                  refine S_laload d_Mo_fits_253 a379 (vp_in_nI (by omega) (by omega)) (fun z211 => ?_)
                  refine ST.lift (fun _ _ k => T_iload_n d_Mo_fits_254 rfl k) ?_
                  refine ST.lift (fun _ _ k => T_i2l d_Mo_fits_255 k) (S_anyl fun z212 => ?_)
                  refine ST.lift (fun _ _ k => T_lcmp d_Mo_fits_256 k) (S_anyi fun z213 => ?_)
                  refine S_if_ge d_Mo_fits_257 rfl (fun c214 => ?_) (fun c214 => ?_)
                  · refine ST.lift (fun _ _ k => T_iconst (v := nI 0) d_Mo_fits_264 (by decide) k) ?_
                    exact S_ret d_Mo_fits_265 rfl (by decide) (by decide) (by decide) (hQ 0 (by decide))
                  · refine ST.lift (fun _ _ k => T_iconst (v := nI 1) d_Mo_fits_260 (by decide) k) ?_
                    refine ST.lift (fun _ _ k => T_goto (tgt := 265) d_Mo_fits_261 rfl k) ?_
                    exact S_ret d_Mo_fits_265 rfl (by decide) (by decide) (by decide) (hQ 1 (by decide))
              · refine ST.lift (fun _ _ k => T_aload_n (v := .ref 373) d_Mo_fits_216 rfl (Or.inr ⟨_, rfl⟩) k) ?_
                refine S_getfield d_Mo_fits_217 fg_Mo_19 (w373 _) rfl ?_
                refine ST.lift (fun _ _ k => T_iload d_Mo_fits_220 rfl k) ?_
                refine S_laload d_Mo_fits_222 a379 (vp_in_nI (by omega) (by omega)) (fun z215 => ?_)
                refine ST.lift (fun _ _ k => T_lconst (v := 0) d_Mo_fits_223 (by decide) k) ?_
                refine ST.lift (fun _ _ k => T_lcmp d_Mo_fits_224 k) (S_anyi fun z216 => ?_)
                refine S_if_eq d_Mo_fits_225 rfl (fun c217 => ?_) (fun c217 => ?_)
                · refine S_iincN (a := k190) (b := 1) (L' := [(4, .int (nI (k190 + 1))), (3, .int (nI z188)), (0, .ref 373), (1, .int n), (2, .int (nI cubed))]) d_Mo_fits_230 (by decide) rfl rfl rfl ?_
                  refine ST.lift (fun _ _ k => T_goto (tgt := 209) d_Mo_fits_233 rfl k) ?_
                  exact ih192 (20 - (k190 + 1)) (by omega) (k190 + 1)  rfl (by omega)
                · refine ST.lift (fun _ _ k => T_iconst (v := nI 0) d_Mo_fits_228 (by decide) k) ?_
                  exact S_ret d_Mo_fits_229 rfl (by decide) (by decide) (by decide) (hQ 0 (by decide))
          exact lp193 _ (z188 + 1)  rfl (by omega)
        refine S_if_eqN d_Mo_fits_189 rfl (by omega) (fun c187 => ?_) (fun c187 => ?_)
        · exact J204_189 8 (by omega)
        · refine ST.lift (fun _ _ k => T_bipush (v := nI 12) d_Mo_fits_192 (by decide) k) ?_
          refine ST.lift (fun _ _ k => T_istore_n (L' := [(3, .int (nI 12)), (4, .int (nI k126)), (0, .ref 373), (1, .int n), (2, .int (nI cubed))]) d_Mo_fits_194 (by decide) rfl k) ?_
          refine ST.lift (fun _ _ k => T_aload_n (v := .ref 373) d_Mo_fits_195 rfl (Or.inr ⟨_, rfl⟩) k) ?_
          refine S_getfield d_Mo_fits_196 fg_Mo_19 (w373 _) rfl ?_
          refine ST.lift (fun _ _ k => T_bipush (v := nI 20) d_Mo_fits_199 (by decide) k) ?_
          refine S_static (as := [.ref 379, .int (nI 20)]) (rest := []) d_Mo_fits_201 rfl (jw_Mo_carries.jo (by decide)) lm_Mo_25 jt_Mo_carries rfl (Nat.le_of_ble_eq_true rfl) (by decide) (by decide) (c_Mo_carries G v 379 20 (by decide) a379 (by omega) 20 (by omega)) (fun r v' hq => ?_)
          rw [hq.1, hq.2]
          clear hq r v'
          show ST G mi_Mo_fits 204 [(3, .int (nI 12)), (4, .int (nI k126)), (0, .ref 373), (1, .int n), (2, .int (nI cubed))] [] v 0 0 _
          refine S_pick [1, 0, 2, 3, 4] rfl ?_
          exact J204_189 12 (by omega)
      · refine ST.lift (fun _ _ k => T_iload_n d_Mo_fits_118 rfl k) ?_
        have J182_245 : ST G mi_Mo_fits 182 [(4, .int (nI k126)), (3, .int (nI 8)), (0, .ref 373), (1, .int n), (2, .int (nI cubed))] [] v 0 0 Q := by
          refine S_iincN (a := k126) (b := 1) (L' := [(4, .int (nI (k126 + 1))), (3, .int (nI 8)), (0, .ref 373), (1, .int n), (2, .int (nI cubed))]) d_Mo_fits_182 (by decide) rfl rfl rfl ?_
          refine ST.lift (fun _ _ k => T_goto (tgt := 111) d_Mo_fits_185 rfl k) ?_
          exact ih128 (12 - (k126 + 1)) (by omega) (k126 + 1)  rfl (by omega)
        refine S_if_eqN d_Mo_fits_119 rfl (by omega) (fun c218 => ?_) (fun c218 => ?_)
        · refine ST.lift (fun _ _ k => T_aload_n (v := .ref 373) d_Mo_fits_168 rfl (Or.inr ⟨_, rfl⟩) k) ?_
          refine S_getfield d_Mo_fits_169 fg_Mo_19 (w373 _) rfl ?_
          refine ST.lift (fun _ _ k => T_iload d_Mo_fits_172 rfl k) ?_
          refine ST.lift (fun _ _ k => T_aload_n (v := .ref 373) d_Mo_fits_174 rfl (Or.inr ⟨_, rfl⟩) k) ?_
          refine S_getfield d_Mo_fits_175 fg_Mo_15 (w373 _) rfl ?_
          refine ST.lift (fun _ _ k => T_iload d_Mo_fits_178 rfl k) ?_
          refine S_laload d_Mo_fits_180 a378 (vp_in_nI (by omega) (by omega)) (fun z246 => ?_)
          refine S_lastore d_Mo_fits_181 (by decide) a379 (vp_in_nI (by omega) (by omega)) ?_
          exact J182_245 
        · refine ST.lift (fun _ _ k => T_iconst (v := nI 0) d_Mo_fits_122 (by decide) k) ?_
          refine ST.lift (fun _ _ k => T_istore (L' := [(5, .int (nI 0)), (4, .int (nI k126)), (3, .int (nI 8)), (0, .ref 373), (1, .int n), (2, .int (nI cubed))]) d_Mo_fits_123 (by decide) rfl k) ?_
          refine ST.lift (fun _ _ k => T_iload d_Mo_fits_125 rfl k) ?_
          refine ST.lift (fun _ _ k => T_iconst (v := nI 5) d_Mo_fits_127 (by decide) k) ?_
          refine S_icmp_geN d_Mo_fits_128 rfl (by omega) (by omega) (fun c => by first | exact absurd c (by omega) | exact c.elim | exact absurd c (by decide) | exact absurd (by assumption) c | exact absurd c (by assumption)) (fun _ => ?_)
          refine ST.lift (fun _ _ k => T_aload_n (v := .ref 373) d_Mo_fits_131 rfl (Or.inr ⟨_, rfl⟩) k) ?_
          refine S_getfield d_Mo_fits_132 fg_Mo_19 (w373 _) rfl ?_
          refine ST.lift (fun _ _ k => T_iload d_Mo_fits_135 rfl k) ?_
          refine ST.lift (fun _ _ k => T_iload d_Mo_fits_137 rfl k) ?_
          refine S_iaddN d_Mo_fits_139 ?_
          refine ST.lift (fun _ _ k => T_dup2 d_Mo_fits_140 rfl rfl k) ?_
          refine S_laload d_Mo_fits_141 a379 (vp_in_nI (by omega) (by omega)) (fun z247 => ?_)
          refine ST.lift (fun _ _ k => T_aload_n (v := .ref 373) d_Mo_fits_142 rfl (Or.inr ⟨_, rfl⟩) k) ?_
          refine S_getfield d_Mo_fits_143 fg_Mo_15 (w373 _) rfl ?_
          refine ST.lift (fun _ _ k => T_iload d_Mo_fits_146 rfl k) ?_
          refine S_laload d_Mo_fits_148 a378 (vp_in_nI (by omega) (by omega)) (fun z248 => ?_)
          refine ST.lift (fun _ _ k => T_aload_n (v := .ref 373) d_Mo_fits_149 rfl (Or.inr ⟨_, rfl⟩) k) ?_
          refine S_getfield d_Mo_fits_150 fg_Mo_22 (w373 _) rfl ?_
          refine ST.lift (fun _ _ k => T_iload d_Mo_fits_153 rfl k) ?_
          refine S_laload d_Mo_fits_155 a377 (vp_in_nI (by omega) (by omega)) (fun z249 => ?_)
          refine ST.lift (fun _ _ k => T_lmul d_Mo_fits_156 k) (S_anyl fun z250 => ?_)
          refine ST.lift (fun _ _ k => T_ladd d_Mo_fits_157 k) (S_anyl fun z251 => ?_)
          refine S_lastore d_Mo_fits_158 (by decide) a379 (vp_in_nI (by omega) (by omega)) ?_
          refine S_iincN (a := 0) (b := 1) (L' := [(5, .int (nI 1)), (4, .int (nI k126)), (3, .int (nI 8)), (0, .ref 373), (1, .int n), (2, .int (nI cubed))]) d_Mo_fits_159 (by decide) rfl rfl rfl ?_
          refine ST.lift (fun _ _ k => T_goto (tgt := 125) d_Mo_fits_162 rfl k) ?_
          refine ST.lift (fun _ _ k => T_iload d_Mo_fits_125 rfl k) ?_
          refine ST.lift (fun _ _ k => T_iconst (v := nI 5) d_Mo_fits_127 (by decide) k) ?_
          refine S_icmp_geN d_Mo_fits_128 rfl (by omega) (by omega) (fun c => by first | exact absurd c (by omega) | exact c.elim | exact absurd c (by decide) | exact absurd (by assumption) c | exact absurd c (by assumption)) (fun _ => ?_)
          refine ST.lift (fun _ _ k => T_aload_n (v := .ref 373) d_Mo_fits_131 rfl (Or.inr ⟨_, rfl⟩) k) ?_
          refine S_getfield d_Mo_fits_132 fg_Mo_19 (w373 _) rfl ?_
          refine ST.lift (fun _ _ k => T_iload d_Mo_fits_135 rfl k) ?_
          refine ST.lift (fun _ _ k => T_iload d_Mo_fits_137 rfl k) ?_
          refine S_iaddN d_Mo_fits_139 ?_
          refine ST.lift (fun _ _ k => T_dup2 d_Mo_fits_140 rfl rfl k) ?_
          refine S_laload d_Mo_fits_141 a379 (vp_in_nI (by omega) (by omega)) (fun z252 => ?_)
          refine ST.lift (fun _ _ k => T_aload_n (v := .ref 373) d_Mo_fits_142 rfl (Or.inr ⟨_, rfl⟩) k) ?_
          refine S_getfield d_Mo_fits_143 fg_Mo_15 (w373 _) rfl ?_
          refine ST.lift (fun _ _ k => T_iload d_Mo_fits_146 rfl k) ?_
          refine S_laload d_Mo_fits_148 a378 (vp_in_nI (by omega) (by omega)) (fun z253 => ?_)
          refine ST.lift (fun _ _ k => T_aload_n (v := .ref 373) d_Mo_fits_149 rfl (Or.inr ⟨_, rfl⟩) k) ?_
          refine S_getfield d_Mo_fits_150 fg_Mo_22 (w373 _) rfl ?_
          refine ST.lift (fun _ _ k => T_iload d_Mo_fits_153 rfl k) ?_
          refine S_laload d_Mo_fits_155 a377 (vp_in_nI (by omega) (by omega)) (fun z254 => ?_)
          refine ST.lift (fun _ _ k => T_lmul d_Mo_fits_156 k) (S_anyl fun z255 => ?_)
          refine ST.lift (fun _ _ k => T_ladd d_Mo_fits_157 k) (S_anyl fun z256 => ?_)
          refine S_lastore d_Mo_fits_158 (by decide) a379 (vp_in_nI (by omega) (by omega)) ?_
          refine S_iincN (a := 1) (b := 1) (L' := [(5, .int (nI 2)), (4, .int (nI k126)), (3, .int (nI 8)), (0, .ref 373), (1, .int n), (2, .int (nI cubed))]) d_Mo_fits_159 (by decide) rfl rfl rfl ?_
          refine ST.lift (fun _ _ k => T_goto (tgt := 125) d_Mo_fits_162 rfl k) ?_
          refine ST.lift (fun _ _ k => T_iload d_Mo_fits_125 rfl k) ?_
          refine ST.lift (fun _ _ k => T_iconst (v := nI 5) d_Mo_fits_127 (by decide) k) ?_
          refine S_icmp_geN d_Mo_fits_128 rfl (by omega) (by omega) (fun c => by first | exact absurd c (by omega) | exact c.elim | exact absurd c (by decide) | exact absurd (by assumption) c | exact absurd c (by assumption)) (fun _ => ?_)
          refine ST.lift (fun _ _ k => T_aload_n (v := .ref 373) d_Mo_fits_131 rfl (Or.inr ⟨_, rfl⟩) k) ?_
          refine S_getfield d_Mo_fits_132 fg_Mo_19 (w373 _) rfl ?_
          refine ST.lift (fun _ _ k => T_iload d_Mo_fits_135 rfl k) ?_
          refine ST.lift (fun _ _ k => T_iload d_Mo_fits_137 rfl k) ?_
          refine S_iaddN d_Mo_fits_139 ?_
          refine ST.lift (fun _ _ k => T_dup2 d_Mo_fits_140 rfl rfl k) ?_
          refine S_laload d_Mo_fits_141 a379 (vp_in_nI (by omega) (by omega)) (fun z257 => ?_)
          refine ST.lift (fun _ _ k => T_aload_n (v := .ref 373) d_Mo_fits_142 rfl (Or.inr ⟨_, rfl⟩) k) ?_
          refine S_getfield d_Mo_fits_143 fg_Mo_15 (w373 _) rfl ?_
          refine ST.lift (fun _ _ k => T_iload d_Mo_fits_146 rfl k) ?_
          refine S_laload d_Mo_fits_148 a378 (vp_in_nI (by omega) (by omega)) (fun z258 => ?_)
          refine ST.lift (fun _ _ k => T_aload_n (v := .ref 373) d_Mo_fits_149 rfl (Or.inr ⟨_, rfl⟩) k) ?_
          refine S_getfield d_Mo_fits_150 fg_Mo_22 (w373 _) rfl ?_
          refine ST.lift (fun _ _ k => T_iload d_Mo_fits_153 rfl k) ?_
          refine S_laload d_Mo_fits_155 a377 (vp_in_nI (by omega) (by omega)) (fun z259 => ?_)
          refine ST.lift (fun _ _ k => T_lmul d_Mo_fits_156 k) (S_anyl fun z260 => ?_)
          refine ST.lift (fun _ _ k => T_ladd d_Mo_fits_157 k) (S_anyl fun z261 => ?_)
          refine S_lastore d_Mo_fits_158 (by decide) a379 (vp_in_nI (by omega) (by omega)) ?_
          refine S_iincN (a := 2) (b := 1) (L' := [(5, .int (nI 3)), (4, .int (nI k126)), (3, .int (nI 8)), (0, .ref 373), (1, .int n), (2, .int (nI cubed))]) d_Mo_fits_159 (by decide) rfl rfl rfl ?_
          refine ST.lift (fun _ _ k => T_goto (tgt := 125) d_Mo_fits_162 rfl k) ?_
          refine ST.lift (fun _ _ k => T_iload d_Mo_fits_125 rfl k) ?_
          refine ST.lift (fun _ _ k => T_iconst (v := nI 5) d_Mo_fits_127 (by decide) k) ?_
          refine S_icmp_geN d_Mo_fits_128 rfl (by omega) (by omega) (fun c => by first | exact absurd c (by omega) | exact c.elim | exact absurd c (by decide) | exact absurd (by assumption) c | exact absurd c (by assumption)) (fun _ => ?_)
          refine ST.lift (fun _ _ k => T_aload_n (v := .ref 373) d_Mo_fits_131 rfl (Or.inr ⟨_, rfl⟩) k) ?_
          refine S_getfield d_Mo_fits_132 fg_Mo_19 (w373 _) rfl ?_
          refine ST.lift (fun _ _ k => T_iload d_Mo_fits_135 rfl k) ?_
          refine ST.lift (fun _ _ k => T_iload d_Mo_fits_137 rfl k) ?_
          refine S_iaddN d_Mo_fits_139 ?_
          refine ST.lift (fun _ _ k => T_dup2 d_Mo_fits_140 rfl rfl k) ?_
          refine S_laload d_Mo_fits_141 a379 (vp_in_nI (by omega) (by omega)) (fun z262 => ?_)
          refine ST.lift (fun _ _ k => T_aload_n (v := .ref 373) d_Mo_fits_142 rfl (Or.inr ⟨_, rfl⟩) k) ?_
          refine S_getfield d_Mo_fits_143 fg_Mo_15 (w373 _) rfl ?_
          refine ST.lift (fun _ _ k => T_iload d_Mo_fits_146 rfl k) ?_
          refine S_laload d_Mo_fits_148 a378 (vp_in_nI (by omega) (by omega)) (fun z263 => ?_)
          refine ST.lift (fun _ _ k => T_aload_n (v := .ref 373) d_Mo_fits_149 rfl (Or.inr ⟨_, rfl⟩) k) ?_
          refine S_getfield d_Mo_fits_150 fg_Mo_22 (w373 _) rfl ?_
          refine ST.lift (fun _ _ k => T_iload d_Mo_fits_153 rfl k) ?_
          refine S_laload d_Mo_fits_155 a377 (vp_in_nI (by omega) (by omega)) (fun z264 => ?_)
          refine ST.lift (fun _ _ k => T_lmul d_Mo_fits_156 k) (S_anyl fun z265 => ?_)
          refine ST.lift (fun _ _ k => T_ladd d_Mo_fits_157 k) (S_anyl fun z266 => ?_)
          refine S_lastore d_Mo_fits_158 (by decide) a379 (vp_in_nI (by omega) (by omega)) ?_
          refine S_iincN (a := 3) (b := 1) (L' := [(5, .int (nI 4)), (4, .int (nI k126)), (3, .int (nI 8)), (0, .ref 373), (1, .int n), (2, .int (nI cubed))]) d_Mo_fits_159 (by decide) rfl rfl rfl ?_
          refine ST.lift (fun _ _ k => T_goto (tgt := 125) d_Mo_fits_162 rfl k) ?_
          refine ST.lift (fun _ _ k => T_iload d_Mo_fits_125 rfl k) ?_
          refine ST.lift (fun _ _ k => T_iconst (v := nI 5) d_Mo_fits_127 (by decide) k) ?_
          refine S_icmp_geN d_Mo_fits_128 rfl (by omega) (by omega) (fun c => by first | exact absurd c (by omega) | exact c.elim | exact absurd c (by decide) | exact absurd (by assumption) c | exact absurd c (by assumption)) (fun _ => ?_)
          refine ST.lift (fun _ _ k => T_aload_n (v := .ref 373) d_Mo_fits_131 rfl (Or.inr ⟨_, rfl⟩) k) ?_
          refine S_getfield d_Mo_fits_132 fg_Mo_19 (w373 _) rfl ?_
          refine ST.lift (fun _ _ k => T_iload d_Mo_fits_135 rfl k) ?_
          refine ST.lift (fun _ _ k => T_iload d_Mo_fits_137 rfl k) ?_
          refine S_iaddN d_Mo_fits_139 ?_
          refine ST.lift (fun _ _ k => T_dup2 d_Mo_fits_140 rfl rfl k) ?_
          refine S_laload d_Mo_fits_141 a379 (vp_in_nI (by omega) (by omega)) (fun z267 => ?_)
          refine ST.lift (fun _ _ k => T_aload_n (v := .ref 373) d_Mo_fits_142 rfl (Or.inr ⟨_, rfl⟩) k) ?_
          refine S_getfield d_Mo_fits_143 fg_Mo_15 (w373 _) rfl ?_
          refine ST.lift (fun _ _ k => T_iload d_Mo_fits_146 rfl k) ?_
          refine S_laload d_Mo_fits_148 a378 (vp_in_nI (by omega) (by omega)) (fun z268 => ?_)
          refine ST.lift (fun _ _ k => T_aload_n (v := .ref 373) d_Mo_fits_149 rfl (Or.inr ⟨_, rfl⟩) k) ?_
          refine S_getfield d_Mo_fits_150 fg_Mo_22 (w373 _) rfl ?_
          refine ST.lift (fun _ _ k => T_iload d_Mo_fits_153 rfl k) ?_
          refine S_laload d_Mo_fits_155 a377 (vp_in_nI (by omega) (by omega)) (fun z269 => ?_)
          refine ST.lift (fun _ _ k => T_lmul d_Mo_fits_156 k) (S_anyl fun z270 => ?_)
          refine ST.lift (fun _ _ k => T_ladd d_Mo_fits_157 k) (S_anyl fun z271 => ?_)
          refine S_lastore d_Mo_fits_158 (by decide) a379 (vp_in_nI (by omega) (by omega)) ?_
          refine S_iincN (a := 4) (b := 1) (L' := [(5, .int (nI 5)), (4, .int (nI k126)), (3, .int (nI 8)), (0, .ref 373), (1, .int n), (2, .int (nI cubed))]) d_Mo_fits_159 (by decide) rfl rfl rfl ?_
          refine ST.lift (fun _ _ k => T_goto (tgt := 125) d_Mo_fits_162 rfl k) ?_
          refine ST.lift (fun _ _ k => T_iload d_Mo_fits_125 rfl k) ?_
          refine ST.lift (fun _ _ k => T_iconst (v := nI 5) d_Mo_fits_127 (by decide) k) ?_
          refine S_icmp_geN d_Mo_fits_128 rfl (by omega) (by omega) (fun _ => ?_) (fun c => by first | exact absurd c (by omega) | exact c.elim | exact absurd c (by decide) | exact absurd (by assumption) c | exact absurd c (by assumption))
          refine ST.lift (fun _ _ k => T_goto (tgt := 182) d_Mo_fits_165 rfl k) ?_
          refine S_pick [1, 2, 3, 4, 5] rfl ?_
          exact J182_245 
  exact lp129 _ 0  rfl (by omega)
set_option maxRecDepth 100000 in
set_option maxHeartbeats 4000000 in
theorem c_Mo_behindPoint (G : GX) (v : Nat → Int32) (n : Int32) (cubed : Nat) (b_cubed : cubed ≤ 1) : CS G mi_Mo_behindPoint [.ref 373, .int n, .int (nI cubed)] v (fun r v' => ∃ z : Int64, r = some (.long z) ∧ v' = v) := by
  refine CS.of (by decide) (Nat.le_of_ble_eq_true rfl) ?_
  generalize hQe : (fun (r : Option Value) (v' : Nat → Int32) => ∃ z : Int64, r = some (.long z) ∧ v' = v) = Q
  have hQ : ∀ z : Int64, Q (some (.long z)) v := by rw [← hQe]; exact fun z => ⟨z, rfl, rfl⟩
  clear hQe
  show ST G mi_Mo_behindPoint 0 [(0, .ref 373), (1, .int n), (2, .int (nI cubed))] [] v 0 0 Q
  refine ST.lift (fun _ _ k => T_iconst (v := nI 0) d_Mo_behindPoint_0 (by decide) k) ?_
  refine ST.lift (fun _ _ k => T_istore_n (L' := [(3, .int (nI 0)), (0, .ref 373), (1, .int n), (2, .int (nI cubed))]) d_Mo_behindPoint_1 (by decide) rfl k) ?_
  refine ST.lift (fun _ _ k => T_iload_n d_Mo_behindPoint_2 rfl k) ?_
  refine ST.lift (fun _ _ k => T_iconst (v := nI 5) d_Mo_behindPoint_3 (by decide) k) ?_
  refine S_icmp_geN d_Mo_behindPoint_4 rfl (by omega) (by omega) (fun c => by first | exact absurd c (by omega) | exact c.elim | exact absurd c (by decide) | exact absurd (by assumption) c | exact absurd c (by assumption)) (fun _ => ?_)
  refine ST.lift (fun _ _ k => T_aload_n (v := .ref 373) d_Mo_behindPoint_7 rfl (Or.inr ⟨_, rfl⟩) k) ?_
  refine S_getfield d_Mo_behindPoint_8 fg_Mo_22 (w373 _) rfl ?_
  refine ST.lift (fun _ _ k => T_iload_n d_Mo_behindPoint_11 rfl k) ?_
  refine ST.lift (fun _ _ k => T_lconst (v := 0) d_Mo_behindPoint_12 (by decide) k) ?_
  refine S_lastore d_Mo_behindPoint_13 (by decide) a377 (vp_in_nI (by omega) (by omega)) ?_
  refine S_iincN (a := 0) (b := 1) (L' := [(3, .int (nI 1)), (0, .ref 373), (1, .int n), (2, .int (nI cubed))]) d_Mo_behindPoint_14 (by decide) rfl rfl rfl ?_
  refine ST.lift (fun _ _ k => T_goto (tgt := 2) d_Mo_behindPoint_17 rfl k) ?_
  refine ST.lift (fun _ _ k => T_iload_n d_Mo_behindPoint_2 rfl k) ?_
  refine ST.lift (fun _ _ k => T_iconst (v := nI 5) d_Mo_behindPoint_3 (by decide) k) ?_
  refine S_icmp_geN d_Mo_behindPoint_4 rfl (by omega) (by omega) (fun c => by first | exact absurd c (by omega) | exact c.elim | exact absurd c (by decide) | exact absurd (by assumption) c | exact absurd c (by assumption)) (fun _ => ?_)
  refine ST.lift (fun _ _ k => T_aload_n (v := .ref 373) d_Mo_behindPoint_7 rfl (Or.inr ⟨_, rfl⟩) k) ?_
  refine S_getfield d_Mo_behindPoint_8 fg_Mo_22 (w373 _) rfl ?_
  refine ST.lift (fun _ _ k => T_iload_n d_Mo_behindPoint_11 rfl k) ?_
  refine ST.lift (fun _ _ k => T_lconst (v := 0) d_Mo_behindPoint_12 (by decide) k) ?_
  refine S_lastore d_Mo_behindPoint_13 (by decide) a377 (vp_in_nI (by omega) (by omega)) ?_
  refine S_iincN (a := 1) (b := 1) (L' := [(3, .int (nI 2)), (0, .ref 373), (1, .int n), (2, .int (nI cubed))]) d_Mo_behindPoint_14 (by decide) rfl rfl rfl ?_
  refine ST.lift (fun _ _ k => T_goto (tgt := 2) d_Mo_behindPoint_17 rfl k) ?_
  refine ST.lift (fun _ _ k => T_iload_n d_Mo_behindPoint_2 rfl k) ?_
  refine ST.lift (fun _ _ k => T_iconst (v := nI 5) d_Mo_behindPoint_3 (by decide) k) ?_
  refine S_icmp_geN d_Mo_behindPoint_4 rfl (by omega) (by omega) (fun c => by first | exact absurd c (by omega) | exact c.elim | exact absurd c (by decide) | exact absurd (by assumption) c | exact absurd c (by assumption)) (fun _ => ?_)
  refine ST.lift (fun _ _ k => T_aload_n (v := .ref 373) d_Mo_behindPoint_7 rfl (Or.inr ⟨_, rfl⟩) k) ?_
  refine S_getfield d_Mo_behindPoint_8 fg_Mo_22 (w373 _) rfl ?_
  refine ST.lift (fun _ _ k => T_iload_n d_Mo_behindPoint_11 rfl k) ?_
  refine ST.lift (fun _ _ k => T_lconst (v := 0) d_Mo_behindPoint_12 (by decide) k) ?_
  refine S_lastore d_Mo_behindPoint_13 (by decide) a377 (vp_in_nI (by omega) (by omega)) ?_
  refine S_iincN (a := 2) (b := 1) (L' := [(3, .int (nI 3)), (0, .ref 373), (1, .int n), (2, .int (nI cubed))]) d_Mo_behindPoint_14 (by decide) rfl rfl rfl ?_
  refine ST.lift (fun _ _ k => T_goto (tgt := 2) d_Mo_behindPoint_17 rfl k) ?_
  refine ST.lift (fun _ _ k => T_iload_n d_Mo_behindPoint_2 rfl k) ?_
  refine ST.lift (fun _ _ k => T_iconst (v := nI 5) d_Mo_behindPoint_3 (by decide) k) ?_
  refine S_icmp_geN d_Mo_behindPoint_4 rfl (by omega) (by omega) (fun c => by first | exact absurd c (by omega) | exact c.elim | exact absurd c (by decide) | exact absurd (by assumption) c | exact absurd c (by assumption)) (fun _ => ?_)
  refine ST.lift (fun _ _ k => T_aload_n (v := .ref 373) d_Mo_behindPoint_7 rfl (Or.inr ⟨_, rfl⟩) k) ?_
  refine S_getfield d_Mo_behindPoint_8 fg_Mo_22 (w373 _) rfl ?_
  refine ST.lift (fun _ _ k => T_iload_n d_Mo_behindPoint_11 rfl k) ?_
  refine ST.lift (fun _ _ k => T_lconst (v := 0) d_Mo_behindPoint_12 (by decide) k) ?_
  refine S_lastore d_Mo_behindPoint_13 (by decide) a377 (vp_in_nI (by omega) (by omega)) ?_
  refine S_iincN (a := 3) (b := 1) (L' := [(3, .int (nI 4)), (0, .ref 373), (1, .int n), (2, .int (nI cubed))]) d_Mo_behindPoint_14 (by decide) rfl rfl rfl ?_
  refine ST.lift (fun _ _ k => T_goto (tgt := 2) d_Mo_behindPoint_17 rfl k) ?_
  refine ST.lift (fun _ _ k => T_iload_n d_Mo_behindPoint_2 rfl k) ?_
  refine ST.lift (fun _ _ k => T_iconst (v := nI 5) d_Mo_behindPoint_3 (by decide) k) ?_
  refine S_icmp_geN d_Mo_behindPoint_4 rfl (by omega) (by omega) (fun c => by first | exact absurd c (by omega) | exact c.elim | exact absurd c (by decide) | exact absurd (by assumption) c | exact absurd c (by assumption)) (fun _ => ?_)
  refine ST.lift (fun _ _ k => T_aload_n (v := .ref 373) d_Mo_behindPoint_7 rfl (Or.inr ⟨_, rfl⟩) k) ?_
  refine S_getfield d_Mo_behindPoint_8 fg_Mo_22 (w373 _) rfl ?_
  refine ST.lift (fun _ _ k => T_iload_n d_Mo_behindPoint_11 rfl k) ?_
  refine ST.lift (fun _ _ k => T_lconst (v := 0) d_Mo_behindPoint_12 (by decide) k) ?_
  refine S_lastore d_Mo_behindPoint_13 (by decide) a377 (vp_in_nI (by omega) (by omega)) ?_
  refine S_iincN (a := 4) (b := 1) (L' := [(3, .int (nI 5)), (0, .ref 373), (1, .int n), (2, .int (nI cubed))]) d_Mo_behindPoint_14 (by decide) rfl rfl rfl ?_
  refine ST.lift (fun _ _ k => T_goto (tgt := 2) d_Mo_behindPoint_17 rfl k) ?_
  refine ST.lift (fun _ _ k => T_iload_n d_Mo_behindPoint_2 rfl k) ?_
  refine ST.lift (fun _ _ k => T_iconst (v := nI 5) d_Mo_behindPoint_3 (by decide) k) ?_
  refine S_icmp_geN d_Mo_behindPoint_4 rfl (by omega) (by omega) (fun _ => ?_) (fun c => by first | exact absurd c (by omega) | exact c.elim | exact absurd c (by decide) | exact absurd (by assumption) c | exact absurd c (by assumption))
  refine ST.lift (fun _ _ k => T_bipush (v := nI 69) d_Mo_behindPoint_20 (by decide) k) ?_
  refine ST.lift (fun _ _ k => T_istore_n (L' := [(3, .int (nI 69)), (0, .ref 373), (1, .int n), (2, .int (nI cubed))]) d_Mo_behindPoint_22 (by decide) rfl k) ?_
  have lp4 : ∀ (n2 k1 : Nat), k1 = n2 → k1 ≤ (69 + 1) → ST G mi_Mo_behindPoint 23 [(3, .int (nI k1 - 1)), (0, .ref 373), (1, .int n), (2, .int (nI cubed))] [] v 0 0 Q := by
    intro n2
    induction n2 using Nat.strongRecOn with
    | _ n2 ih3 =>
      intro k1 h5 h6
      refine ST.lift (fun _ _ k => T_iload_n d_Mo_behindPoint_23 rfl k) ?_
      refine S_if_ltD d_Mo_behindPoint_24 rfl (by omega) (fun h8 => ?_) (fun b7 h8 => ?_)
      · refine ST.lift (fun _ _ k => T_aload_n (v := .ref 373) d_Mo_behindPoint_78 rfl (Or.inr ⟨_, rfl⟩) k) ?_
        refine S_getfield d_Mo_behindPoint_79 fg_Mo_22 (w373 _) rfl ?_
        refine ST.lift (fun _ _ k => T_iconst (v := nI 0) d_Mo_behindPoint_82 (by decide) k) ?_
        refine S_laload d_Mo_behindPoint_83 a377 (vp_in_nI (by omega) (by omega)) (fun z9 => ?_)
        refine ST.lift (fun _ _ k => T_aload_n (v := .ref 373) d_Mo_behindPoint_84 rfl (Or.inr ⟨_, rfl⟩) k) ?_
        refine S_getfield d_Mo_behindPoint_85 fg_Mo_22 (w373 _) rfl ?_
        refine ST.lift (fun _ _ k => T_iconst (v := nI 1) d_Mo_behindPoint_88 (by decide) k) ?_
        refine S_laload d_Mo_behindPoint_89 a377 (vp_in_nI (by omega) (by omega)) (fun z10 => ?_)
        refine ST.lift (fun _ _ k => T_bipush (v := nI 16) d_Mo_behindPoint_90 (by decide) k) ?_
        refine ST.lift (fun _ _ k => T_lshl d_Mo_behindPoint_92 k) (S_anyl fun z11 => ?_)
        refine ST.lift (fun _ _ k => T_lor d_Mo_behindPoint_93 k) (S_anyl fun z12 => ?_)
        refine ST.lift (fun _ _ k => T_aload_n (v := .ref 373) d_Mo_behindPoint_94 rfl (Or.inr ⟨_, rfl⟩) k) ?_
        refine S_getfield d_Mo_behindPoint_95 fg_Mo_22 (w373 _) rfl ?_
        refine ST.lift (fun _ _ k => T_iconst (v := nI 2) d_Mo_behindPoint_98 (by decide) k) ?_
        refine S_laload d_Mo_behindPoint_99 a377 (vp_in_nI (by omega) (by omega)) (fun z13 => ?_)
        refine ST.lift (fun _ _ k => T_bipush (v := nI 32) d_Mo_behindPoint_100 (by decide) k) ?_
        refine ST.lift (fun _ _ k => T_lshl d_Mo_behindPoint_102 k) (S_anyl fun z14 => ?_)
        refine ST.lift (fun _ _ k => T_lor d_Mo_behindPoint_103 k) (S_anyl fun z15 => ?_)
        refine ST.lift (fun _ _ k => T_aload_n (v := .ref 373) d_Mo_behindPoint_104 rfl (Or.inr ⟨_, rfl⟩) k) ?_
        refine S_getfield d_Mo_behindPoint_105 fg_Mo_22 (w373 _) rfl ?_
        refine ST.lift (fun _ _ k => T_iconst (v := nI 3) d_Mo_behindPoint_108 (by decide) k) ?_
        refine S_laload d_Mo_behindPoint_109 a377 (vp_in_nI (by omega) (by omega)) (fun z16 => ?_)
        refine ST.lift (fun _ _ k => T_bipush (v := nI 48) d_Mo_behindPoint_110 (by decide) k) ?_
        refine ST.lift (fun _ _ k => T_lshl d_Mo_behindPoint_112 k) (S_anyl fun z17 => ?_)
        refine ST.lift (fun _ _ k => T_lor d_Mo_behindPoint_113 k) (S_anyl fun z18 => ?_)
        exact S_lret d_Mo_behindPoint_114 rfl (by decide) (by decide) (hQ _)
      · subst h8
        refine S_loc (L' := [(3, .int (nI b7)), (0, .ref 373), (1, .int n), (2, .int (nI cubed))]) (by rw [nI_pred]) ?_
        refine ST.lift (fun _ _ k => T_aload_n (v := .ref 373) d_Mo_behindPoint_27 rfl (Or.inr ⟨_, rfl⟩) k) ?_
        refine S_getfield d_Mo_behindPoint_28 fg_Mo_22 (w373 _) rfl ?_
        refine ST.lift (fun _ _ k => T_iload_n d_Mo_behindPoint_31 rfl k) ?_
        refine ST.lift (fun _ _ k => T_bipush (v := nI 16) d_Mo_behindPoint_32 (by decide) k) ?_
        refine S_idivN d_Mo_behindPoint_34 (by omega) (by omega) (by omega) ?_
        refine ST.lift (fun _ _ k => T_dup2 d_Mo_behindPoint_35 rfl rfl k) ?_
        refine S_laload d_Mo_behindPoint_36 a377 (vp_in_nI (by omega) (by omega)) (fun z19 => ?_)
        refine ST.lift (fun _ _ k => T_lconst (v := 1) d_Mo_behindPoint_37 (by decide) k) ?_
        refine ST.lift (fun _ _ k => T_iload_n d_Mo_behindPoint_38 rfl k) ?_
        refine ST.lift (fun _ _ k => T_bipush (v := nI 16) d_Mo_behindPoint_39 (by decide) k) ?_
        refine S_iremN d_Mo_behindPoint_41 (by omega) (by omega) (by omega) ?_
        refine ST.lift (fun _ _ k => T_lshl d_Mo_behindPoint_42 k) (S_anyl fun z20 => ?_)
        refine ST.lift (fun _ _ k => T_ladd d_Mo_behindPoint_43 k) (S_anyl fun z21 => ?_)
        refine S_lastore d_Mo_behindPoint_44 (by decide) a377 (vp_in_nI (by omega) (by omega)) ?_
        refine ST.lift (fun _ _ k => T_aload_n (v := .ref 373) d_Mo_behindPoint_45 rfl (Or.inr ⟨_, rfl⟩) k) ?_
        refine ST.lift (fun _ _ k => T_iload_n d_Mo_behindPoint_46 rfl k) ?_
        refine ST.lift (fun _ _ k => T_iload_n d_Mo_behindPoint_47 rfl k) ?_
        refine S_virtual (as := [.int n, .int (nI cubed)]) (rest := []) (b := 373) d_Mo_behindPoint_48 rfl (jw_Mo_fits.jo (by decide)) lm_Mo_31 ji_Mo_fits js_Mo_fits (w373 _) rfl rfl rfl (Nat.le_of_ble_eq_true rfl) (by decide) (by decide) (c_Mo_fits G v n cubed (by omega)) (fun r v' hq => ?_)
        obtain ⟨z22, hz22, hr, hv⟩ := hq
        rw [hr, hv]
        clear hr hv r v'
        show ST G mi_Mo_behindPoint 51 [(3, .int (nI b7)), (0, .ref 373), (1, .int n), (2, .int (nI cubed))] [.int (nI z22)] v 0 0 _
        have J72_27 : ST G mi_Mo_behindPoint 72 [(3, .int (nI b7)), (0, .ref 373), (1, .int n), (2, .int (nI cubed))] [] v 0 0 Q := by
          refine S_iincD (a := b7) (L' := [(3, .int (nI b7 - 1)), (0, .ref 373), (1, .int n), (2, .int (nI cubed))]) d_Mo_behindPoint_72 (by decide) rfl rfl ?_
          refine ST.lift (fun _ _ k => T_goto (tgt := 23) d_Mo_behindPoint_75 rfl k) ?_
          exact ih3 b7 (by omega) b7  rfl (by omega)
        refine S_if_neN d_Mo_behindPoint_51 rfl (by omega) (fun c23 => ?_) (fun c23 => ?_)
        · exact J72_27 
        · refine ST.lift (fun _ _ k => T_aload_n (v := .ref 373) d_Mo_behindPoint_54 rfl (Or.inr ⟨_, rfl⟩) k) ?_
          refine S_getfield d_Mo_behindPoint_55 fg_Mo_22 (w373 _) rfl ?_
          refine ST.lift (fun _ _ k => T_iload_n d_Mo_behindPoint_58 rfl k) ?_
          refine ST.lift (fun _ _ k => T_bipush (v := nI 16) d_Mo_behindPoint_59 (by decide) k) ?_
          refine S_idivN d_Mo_behindPoint_61 (by omega) (by omega) (by omega) ?_
          refine ST.lift (fun _ _ k => T_dup2 d_Mo_behindPoint_62 rfl rfl k) ?_
          refine S_laload d_Mo_behindPoint_63 a377 (vp_in_nI (by omega) (by omega)) (fun z28 => ?_)
          refine ST.lift (fun _ _ k => T_lconst (v := 1) d_Mo_behindPoint_64 (by decide) k) ?_
          refine ST.lift (fun _ _ k => T_iload_n d_Mo_behindPoint_65 rfl k) ?_
          refine ST.lift (fun _ _ k => T_bipush (v := nI 16) d_Mo_behindPoint_66 (by decide) k) ?_
          refine S_iremN d_Mo_behindPoint_68 (by omega) (by omega) (by omega) ?_
          refine ST.lift (fun _ _ k => T_lshl d_Mo_behindPoint_69 k) (S_anyl fun z29 => ?_)
          refine ST.lift (fun _ _ k => T_lsub d_Mo_behindPoint_70 k) (S_anyl fun z30 => ?_)
          refine S_lastore d_Mo_behindPoint_71 (by decide) a377 (vp_in_nI (by omega) (by omega)) ?_
          exact J72_27 
  have e_lp4 : nI 69 = nI (69 + 1) - 1 := (nI_pred _).symm
  refine S_loc (L' := [(3, .int (nI (69 + 1) - 1)), (0, .ref 373), (1, .int n), (2, .int (nI cubed))]) (by rw [← e_lp4]) ?_
  exact lp4 _ (69 + 1)  rfl (by omega)
set_option maxRecDepth 100000 in
set_option maxHeartbeats 4000000 in
theorem c_Mo_turn (G : GX) (v : Nat → Int32) (x : Int64) (r0 : Int32) : CS G mi_Mo_turn [.long x, .int r0] v (fun r v' => ∃ z : Int64, r = some (.long z) ∧ v' = v) := by
  refine CS.of (by decide) (Nat.le_of_ble_eq_true rfl) ?_
  generalize hQe : (fun (r : Option Value) (v' : Nat → Int32) => ∃ z : Int64, r = some (.long z) ∧ v' = v) = Q
  have hQ : ∀ z : Int64, Q (some (.long z)) v := by rw [← hQe]; exact fun z => ⟨z, rfl, rfl⟩
  clear hQe
  show ST G mi_Mo_turn 0 [(0, .long x), (2, .int r0)] [] v 0 0 Q
  refine ST.lift (fun _ _ k => T_lload_n d_Mo_turn_0 rfl k) ?_
  refine ST.lift (fun _ _ k => T_iload_n d_Mo_turn_1 rfl k) ?_
  refine ST.lift (fun _ _ k => T_lushr d_Mo_turn_2 k) (S_anyl fun z1 => ?_)
  refine ST.lift (fun _ _ k => T_lload_n d_Mo_turn_3 rfl k) ?_
  refine ST.lift (fun _ _ k => T_bipush (v := nI 64) d_Mo_turn_4 (by decide) k) ?_
  refine ST.lift (fun _ _ k => T_iload_n d_Mo_turn_6 rfl k) ?_
  refine ST.lift (fun _ _ k => T_isub d_Mo_turn_7 k) (S_anyi fun z2 => ?_)
  refine ST.lift (fun _ _ k => T_lshl d_Mo_turn_8 k) (S_anyl fun z3 => ?_)
  refine ST.lift (fun _ _ k => T_lor d_Mo_turn_9 k) (S_anyl fun z4 => ?_)
  exact S_lret d_Mo_turn_10 rfl (by decide) (by decide) (hQ _)
set_option maxRecDepth 100000 in
set_option maxHeartbeats 4000000 in
theorem c_Mo_block (G : GX) (v : Nat → Int32) (pos : Nat) (b_pos : pos + 128 ≤ 4000) : CS G mi_Mo_block [.ref 373, .int (nI pos)] v (fun r v' => r = none ∧ v' = v) := by
  refine CS.of (by decide) (Nat.le_of_ble_eq_true rfl) ?_
  generalize hQe : (fun (r : Option Value) (v' : Nat → Int32) => r = none ∧ v' = v) = Q
  have hQ : Q none v := by rw [← hQe]; exact ⟨rfl, rfl⟩
  clear hQe
  show ST G mi_Mo_block 0 [(0, .ref 373), (1, .int (nI pos))] [] v 0 0 Q
  refine ST.lift (fun _ _ k => T_iconst (v := nI 0) d_Mo_block_0 (by decide) k) ?_
  refine ST.lift (fun _ _ k => T_istore_n (L' := [(2, .int (nI 0)), (0, .ref 373), (1, .int (nI pos))]) d_Mo_block_1 (by decide) rfl k) ?_
  have lp4 : ∀ (n2 k1 : Nat), 16 - k1 = n2 → 0 ≤ k1 ∧ k1 ≤ 0 + 16 → ST G mi_Mo_block 2 [(2, .int (nI k1)), (0, .ref 373), (1, .int (nI pos))] [] v 0 0 Q := by
    intro n2
    induction n2 using Nat.strongRecOn with
    | _ n2 ih3 =>
      intro k1 h5 h6
      refine ST.lift (fun _ _ k => T_iload_n d_Mo_block_2 rfl k) ?_
      refine ST.lift (fun _ _ k => T_bipush (v := nI 16) d_Mo_block_3 (by decide) k) ?_
      refine S_icmp_geN d_Mo_block_5 rfl (by omega) (by omega) (fun c7 => ?_) (fun c7 => ?_)
      · refine ST.lift (fun _ _ k => T_bipush (v := nI 16) d_Mo_block_65 (by decide) k) ?_
        refine ST.lift (fun _ _ k => T_istore_n (L' := [(2, .int (nI 16)), (0, .ref 373), (1, .int (nI pos))]) d_Mo_block_67 (by decide) rfl k) ?_
        have lp51 : ∀ (n49 k48 : Nat), 80 - k48 = n49 → 16 ≤ k48 ∧ k48 ≤ 16 + 80 → ST G mi_Mo_block 68 [(2, .int (nI k48)), (0, .ref 373), (1, .int (nI pos))] [] v 0 0 Q := by
          intro n49
          induction n49 using Nat.strongRecOn with
          | _ n49 ih50 =>
            intro k48 h52 h53
            refine ST.lift (fun _ _ k => T_iload_n d_Mo_block_68 rfl k) ?_
            refine ST.lift (fun _ _ k => T_bipush (v := nI 80) d_Mo_block_69 (by decide) k) ?_
            refine S_icmp_geN d_Mo_block_71 rfl (by omega) (by omega) (fun c54 => ?_) (fun c54 => ?_)
            · refine ST.lift (fun _ _ k => T_iconst (v := nI 0) d_Mo_block_165 (by decide) k) ?_
              refine ST.lift (fun _ _ k => T_istore_n (L' := [(2, .int (nI 0)), (0, .ref 373), (1, .int (nI pos))]) d_Mo_block_166 (by decide) rfl k) ?_
              refine ST.lift (fun _ _ k => T_iload_n d_Mo_block_167 rfl k) ?_
              refine ST.lift (fun _ _ k => T_bipush (v := nI 8) d_Mo_block_168 (by decide) k) ?_
              refine S_icmp_geN d_Mo_block_170 rfl (by omega) (by omega) (fun c => by first | exact absurd c (by omega) | exact c.elim | exact absurd c (by decide) | exact absurd (by assumption) c | exact absurd c (by assumption)) (fun _ => ?_)
              refine ST.lift (fun _ _ k => T_aload_n (v := .ref 373) d_Mo_block_173 rfl (Or.inr ⟨_, rfl⟩) k) ?_
              refine S_getfield d_Mo_block_174 fg_Mo_65 (w373 _) rfl ?_
              refine ST.lift (fun _ _ k => T_iload_n d_Mo_block_177 rfl k) ?_
              refine ST.lift (fun _ _ k => T_aload_n (v := .ref 373) d_Mo_block_178 rfl (Or.inr ⟨_, rfl⟩) k) ?_
              refine S_getfield d_Mo_block_179 fg_Mo_49 (w373 _) rfl ?_
              refine ST.lift (fun _ _ k => T_iload_n d_Mo_block_182 rfl k) ?_
              refine S_laload d_Mo_block_183 a381 (vp_in_nI (by omega) (by omega)) (fun z72 => ?_)
              refine S_lastore d_Mo_block_184 (by decide) a382 (vp_in_nI (by omega) (by omega)) ?_
              refine S_iincN (a := 0) (b := 1) (L' := [(2, .int (nI 1)), (0, .ref 373), (1, .int (nI pos))]) d_Mo_block_185 (by decide) rfl rfl rfl ?_
              refine ST.lift (fun _ _ k => T_goto (tgt := 167) d_Mo_block_188 rfl k) ?_
              refine ST.lift (fun _ _ k => T_iload_n d_Mo_block_167 rfl k) ?_
              refine ST.lift (fun _ _ k => T_bipush (v := nI 8) d_Mo_block_168 (by decide) k) ?_
              refine S_icmp_geN d_Mo_block_170 rfl (by omega) (by omega) (fun c => by first | exact absurd c (by omega) | exact c.elim | exact absurd c (by decide) | exact absurd (by assumption) c | exact absurd c (by assumption)) (fun _ => ?_)
              refine ST.lift (fun _ _ k => T_aload_n (v := .ref 373) d_Mo_block_173 rfl (Or.inr ⟨_, rfl⟩) k) ?_
              refine S_getfield d_Mo_block_174 fg_Mo_65 (w373 _) rfl ?_
              refine ST.lift (fun _ _ k => T_iload_n d_Mo_block_177 rfl k) ?_
              refine ST.lift (fun _ _ k => T_aload_n (v := .ref 373) d_Mo_block_178 rfl (Or.inr ⟨_, rfl⟩) k) ?_
              refine S_getfield d_Mo_block_179 fg_Mo_49 (w373 _) rfl ?_
              refine ST.lift (fun _ _ k => T_iload_n d_Mo_block_182 rfl k) ?_
              refine S_laload d_Mo_block_183 a381 (vp_in_nI (by omega) (by omega)) (fun z73 => ?_)
              refine S_lastore d_Mo_block_184 (by decide) a382 (vp_in_nI (by omega) (by omega)) ?_
              refine S_iincN (a := 1) (b := 1) (L' := [(2, .int (nI 2)), (0, .ref 373), (1, .int (nI pos))]) d_Mo_block_185 (by decide) rfl rfl rfl ?_
              refine ST.lift (fun _ _ k => T_goto (tgt := 167) d_Mo_block_188 rfl k) ?_
              refine ST.lift (fun _ _ k => T_iload_n d_Mo_block_167 rfl k) ?_
              refine ST.lift (fun _ _ k => T_bipush (v := nI 8) d_Mo_block_168 (by decide) k) ?_
              refine S_icmp_geN d_Mo_block_170 rfl (by omega) (by omega) (fun c => by first | exact absurd c (by omega) | exact c.elim | exact absurd c (by decide) | exact absurd (by assumption) c | exact absurd c (by assumption)) (fun _ => ?_)
              refine ST.lift (fun _ _ k => T_aload_n (v := .ref 373) d_Mo_block_173 rfl (Or.inr ⟨_, rfl⟩) k) ?_
              refine S_getfield d_Mo_block_174 fg_Mo_65 (w373 _) rfl ?_
              refine ST.lift (fun _ _ k => T_iload_n d_Mo_block_177 rfl k) ?_
              refine ST.lift (fun _ _ k => T_aload_n (v := .ref 373) d_Mo_block_178 rfl (Or.inr ⟨_, rfl⟩) k) ?_
              refine S_getfield d_Mo_block_179 fg_Mo_49 (w373 _) rfl ?_
              refine ST.lift (fun _ _ k => T_iload_n d_Mo_block_182 rfl k) ?_
              refine S_laload d_Mo_block_183 a381 (vp_in_nI (by omega) (by omega)) (fun z74 => ?_)
              refine S_lastore d_Mo_block_184 (by decide) a382 (vp_in_nI (by omega) (by omega)) ?_
              refine S_iincN (a := 2) (b := 1) (L' := [(2, .int (nI 3)), (0, .ref 373), (1, .int (nI pos))]) d_Mo_block_185 (by decide) rfl rfl rfl ?_
              refine ST.lift (fun _ _ k => T_goto (tgt := 167) d_Mo_block_188 rfl k) ?_
              refine ST.lift (fun _ _ k => T_iload_n d_Mo_block_167 rfl k) ?_
              refine ST.lift (fun _ _ k => T_bipush (v := nI 8) d_Mo_block_168 (by decide) k) ?_
              refine S_icmp_geN d_Mo_block_170 rfl (by omega) (by omega) (fun c => by first | exact absurd c (by omega) | exact c.elim | exact absurd c (by decide) | exact absurd (by assumption) c | exact absurd c (by assumption)) (fun _ => ?_)
              refine ST.lift (fun _ _ k => T_aload_n (v := .ref 373) d_Mo_block_173 rfl (Or.inr ⟨_, rfl⟩) k) ?_
              refine S_getfield d_Mo_block_174 fg_Mo_65 (w373 _) rfl ?_
              refine ST.lift (fun _ _ k => T_iload_n d_Mo_block_177 rfl k) ?_
              refine ST.lift (fun _ _ k => T_aload_n (v := .ref 373) d_Mo_block_178 rfl (Or.inr ⟨_, rfl⟩) k) ?_
              refine S_getfield d_Mo_block_179 fg_Mo_49 (w373 _) rfl ?_
              refine ST.lift (fun _ _ k => T_iload_n d_Mo_block_182 rfl k) ?_
              refine S_laload d_Mo_block_183 a381 (vp_in_nI (by omega) (by omega)) (fun z75 => ?_)
              refine S_lastore d_Mo_block_184 (by decide) a382 (vp_in_nI (by omega) (by omega)) ?_
              refine S_iincN (a := 3) (b := 1) (L' := [(2, .int (nI 4)), (0, .ref 373), (1, .int (nI pos))]) d_Mo_block_185 (by decide) rfl rfl rfl ?_
              refine ST.lift (fun _ _ k => T_goto (tgt := 167) d_Mo_block_188 rfl k) ?_
              refine ST.lift (fun _ _ k => T_iload_n d_Mo_block_167 rfl k) ?_
              refine ST.lift (fun _ _ k => T_bipush (v := nI 8) d_Mo_block_168 (by decide) k) ?_
              refine S_icmp_geN d_Mo_block_170 rfl (by omega) (by omega) (fun c => by first | exact absurd c (by omega) | exact c.elim | exact absurd c (by decide) | exact absurd (by assumption) c | exact absurd c (by assumption)) (fun _ => ?_)
              refine ST.lift (fun _ _ k => T_aload_n (v := .ref 373) d_Mo_block_173 rfl (Or.inr ⟨_, rfl⟩) k) ?_
              refine S_getfield d_Mo_block_174 fg_Mo_65 (w373 _) rfl ?_
              refine ST.lift (fun _ _ k => T_iload_n d_Mo_block_177 rfl k) ?_
              refine ST.lift (fun _ _ k => T_aload_n (v := .ref 373) d_Mo_block_178 rfl (Or.inr ⟨_, rfl⟩) k) ?_
              refine S_getfield d_Mo_block_179 fg_Mo_49 (w373 _) rfl ?_
              refine ST.lift (fun _ _ k => T_iload_n d_Mo_block_182 rfl k) ?_
              refine S_laload d_Mo_block_183 a381 (vp_in_nI (by omega) (by omega)) (fun z76 => ?_)
              refine S_lastore d_Mo_block_184 (by decide) a382 (vp_in_nI (by omega) (by omega)) ?_
              refine S_iincN (a := 4) (b := 1) (L' := [(2, .int (nI 5)), (0, .ref 373), (1, .int (nI pos))]) d_Mo_block_185 (by decide) rfl rfl rfl ?_
              refine ST.lift (fun _ _ k => T_goto (tgt := 167) d_Mo_block_188 rfl k) ?_
              refine ST.lift (fun _ _ k => T_iload_n d_Mo_block_167 rfl k) ?_
              refine ST.lift (fun _ _ k => T_bipush (v := nI 8) d_Mo_block_168 (by decide) k) ?_
              refine S_icmp_geN d_Mo_block_170 rfl (by omega) (by omega) (fun c => by first | exact absurd c (by omega) | exact c.elim | exact absurd c (by decide) | exact absurd (by assumption) c | exact absurd c (by assumption)) (fun _ => ?_)
              refine ST.lift (fun _ _ k => T_aload_n (v := .ref 373) d_Mo_block_173 rfl (Or.inr ⟨_, rfl⟩) k) ?_
              refine S_getfield d_Mo_block_174 fg_Mo_65 (w373 _) rfl ?_
              refine ST.lift (fun _ _ k => T_iload_n d_Mo_block_177 rfl k) ?_
              refine ST.lift (fun _ _ k => T_aload_n (v := .ref 373) d_Mo_block_178 rfl (Or.inr ⟨_, rfl⟩) k) ?_
              refine S_getfield d_Mo_block_179 fg_Mo_49 (w373 _) rfl ?_
              refine ST.lift (fun _ _ k => T_iload_n d_Mo_block_182 rfl k) ?_
              refine S_laload d_Mo_block_183 a381 (vp_in_nI (by omega) (by omega)) (fun z77 => ?_)
              refine S_lastore d_Mo_block_184 (by decide) a382 (vp_in_nI (by omega) (by omega)) ?_
              refine S_iincN (a := 5) (b := 1) (L' := [(2, .int (nI 6)), (0, .ref 373), (1, .int (nI pos))]) d_Mo_block_185 (by decide) rfl rfl rfl ?_
              refine ST.lift (fun _ _ k => T_goto (tgt := 167) d_Mo_block_188 rfl k) ?_
              refine ST.lift (fun _ _ k => T_iload_n d_Mo_block_167 rfl k) ?_
              refine ST.lift (fun _ _ k => T_bipush (v := nI 8) d_Mo_block_168 (by decide) k) ?_
              refine S_icmp_geN d_Mo_block_170 rfl (by omega) (by omega) (fun c => by first | exact absurd c (by omega) | exact c.elim | exact absurd c (by decide) | exact absurd (by assumption) c | exact absurd c (by assumption)) (fun _ => ?_)
              refine ST.lift (fun _ _ k => T_aload_n (v := .ref 373) d_Mo_block_173 rfl (Or.inr ⟨_, rfl⟩) k) ?_
              refine S_getfield d_Mo_block_174 fg_Mo_65 (w373 _) rfl ?_
              refine ST.lift (fun _ _ k => T_iload_n d_Mo_block_177 rfl k) ?_
              refine ST.lift (fun _ _ k => T_aload_n (v := .ref 373) d_Mo_block_178 rfl (Or.inr ⟨_, rfl⟩) k) ?_
              refine S_getfield d_Mo_block_179 fg_Mo_49 (w373 _) rfl ?_
              refine ST.lift (fun _ _ k => T_iload_n d_Mo_block_182 rfl k) ?_
              refine S_laload d_Mo_block_183 a381 (vp_in_nI (by omega) (by omega)) (fun z78 => ?_)
              refine S_lastore d_Mo_block_184 (by decide) a382 (vp_in_nI (by omega) (by omega)) ?_
              refine S_iincN (a := 6) (b := 1) (L' := [(2, .int (nI 7)), (0, .ref 373), (1, .int (nI pos))]) d_Mo_block_185 (by decide) rfl rfl rfl ?_
              refine ST.lift (fun _ _ k => T_goto (tgt := 167) d_Mo_block_188 rfl k) ?_
              refine ST.lift (fun _ _ k => T_iload_n d_Mo_block_167 rfl k) ?_
              refine ST.lift (fun _ _ k => T_bipush (v := nI 8) d_Mo_block_168 (by decide) k) ?_
              refine S_icmp_geN d_Mo_block_170 rfl (by omega) (by omega) (fun c => by first | exact absurd c (by omega) | exact c.elim | exact absurd c (by decide) | exact absurd (by assumption) c | exact absurd c (by assumption)) (fun _ => ?_)
              refine ST.lift (fun _ _ k => T_aload_n (v := .ref 373) d_Mo_block_173 rfl (Or.inr ⟨_, rfl⟩) k) ?_
              refine S_getfield d_Mo_block_174 fg_Mo_65 (w373 _) rfl ?_
              refine ST.lift (fun _ _ k => T_iload_n d_Mo_block_177 rfl k) ?_
              refine ST.lift (fun _ _ k => T_aload_n (v := .ref 373) d_Mo_block_178 rfl (Or.inr ⟨_, rfl⟩) k) ?_
              refine S_getfield d_Mo_block_179 fg_Mo_49 (w373 _) rfl ?_
              refine ST.lift (fun _ _ k => T_iload_n d_Mo_block_182 rfl k) ?_
              refine S_laload d_Mo_block_183 a381 (vp_in_nI (by omega) (by omega)) (fun z79 => ?_)
              refine S_lastore d_Mo_block_184 (by decide) a382 (vp_in_nI (by omega) (by omega)) ?_
              refine S_iincN (a := 7) (b := 1) (L' := [(2, .int (nI 8)), (0, .ref 373), (1, .int (nI pos))]) d_Mo_block_185 (by decide) rfl rfl rfl ?_
              refine ST.lift (fun _ _ k => T_goto (tgt := 167) d_Mo_block_188 rfl k) ?_
              refine ST.lift (fun _ _ k => T_iload_n d_Mo_block_167 rfl k) ?_
              refine ST.lift (fun _ _ k => T_bipush (v := nI 8) d_Mo_block_168 (by decide) k) ?_
              refine S_icmp_geN d_Mo_block_170 rfl (by omega) (by omega) (fun _ => ?_) (fun c => by first | exact absurd c (by omega) | exact c.elim | exact absurd c (by decide) | exact absurd (by assumption) c | exact absurd c (by assumption))
              refine ST.lift (fun _ _ k => T_iconst (v := nI 0) d_Mo_block_191 (by decide) k) ?_
              refine ST.lift (fun _ _ k => T_istore_n (L' := [(2, .int (nI 0)), (0, .ref 373), (1, .int (nI pos))]) d_Mo_block_192 (by decide) rfl k) ?_
              have lp83 : ∀ (n81 k80 : Nat), 80 - k80 = n81 → 0 ≤ k80 ∧ k80 ≤ 0 + 80 → ST G mi_Mo_block 193 [(2, .int (nI k80)), (0, .ref 373), (1, .int (nI pos))] [] v 0 0 Q := by
                intro n81
                induction n81 using Nat.strongRecOn with
                | _ n81 ih82 =>
                  intro k80 h84 h85
                  refine ST.lift (fun _ _ k => T_iload_n d_Mo_block_193 rfl k) ?_
                  refine ST.lift (fun _ _ k => T_bipush (v := nI 80) d_Mo_block_194 (by decide) k) ?_
                  refine S_icmp_geN d_Mo_block_196 rfl (by omega) (by omega) (fun c86 => ?_) (fun c86 => ?_)
                  · refine ST.lift (fun _ _ k => T_iconst (v := nI 0) d_Mo_block_399 (by decide) k) ?_
                    refine ST.lift (fun _ _ k => T_istore_n (L' := [(2, .int (nI 0)), (0, .ref 373), (1, .int (nI pos))]) d_Mo_block_400 (by decide) rfl k) ?_
                    refine ST.lift (fun _ _ k => T_iload_n d_Mo_block_401 rfl k) ?_
                    refine ST.lift (fun _ _ k => T_bipush (v := nI 8) d_Mo_block_402 (by decide) k) ?_
                    refine S_icmp_geN d_Mo_block_404 rfl (by omega) (by omega) (fun c => by first | exact absurd c (by omega) | exact c.elim | exact absurd c (by decide) | exact absurd (by assumption) c | exact absurd c (by assumption)) (fun _ => ?_)
                    refine ST.lift (fun _ _ k => T_aload_n (v := .ref 373) d_Mo_block_407 rfl (Or.inr ⟨_, rfl⟩) k) ?_
                    refine S_getfield d_Mo_block_408 fg_Mo_49 (w373 _) rfl ?_
                    refine ST.lift (fun _ _ k => T_iload_n d_Mo_block_411 rfl k) ?_
                    refine ST.lift (fun _ _ k => T_dup2 d_Mo_block_412 rfl rfl k) ?_
                    refine S_laload d_Mo_block_413 a381 (vp_in_nI (by omega) (by omega)) (fun z132 => ?_)
                    refine ST.lift (fun _ _ k => T_aload_n (v := .ref 373) d_Mo_block_414 rfl (Or.inr ⟨_, rfl⟩) k) ?_
                    refine S_getfield d_Mo_block_415 fg_Mo_65 (w373 _) rfl ?_
                    refine ST.lift (fun _ _ k => T_iload_n d_Mo_block_418 rfl k) ?_
                    refine S_laload d_Mo_block_419 a382 (vp_in_nI (by omega) (by omega)) (fun z133 => ?_)
                    refine ST.lift (fun _ _ k => T_ladd d_Mo_block_420 k) (S_anyl fun z134 => ?_)
                    refine S_lastore d_Mo_block_421 (by decide) a381 (vp_in_nI (by omega) (by omega)) ?_
                    refine S_iincN (a := 0) (b := 1) (L' := [(2, .int (nI 1)), (0, .ref 373), (1, .int (nI pos))]) d_Mo_block_422 (by decide) rfl rfl rfl ?_
                    refine ST.lift (fun _ _ k => T_goto (tgt := 401) d_Mo_block_425 rfl k) ?_
                    refine ST.lift (fun _ _ k => T_iload_n d_Mo_block_401 rfl k) ?_
                    refine ST.lift (fun _ _ k => T_bipush (v := nI 8) d_Mo_block_402 (by decide) k) ?_
                    refine S_icmp_geN d_Mo_block_404 rfl (by omega) (by omega) (fun c => by first | exact absurd c (by omega) | exact c.elim | exact absurd c (by decide) | exact absurd (by assumption) c | exact absurd c (by assumption)) (fun _ => ?_)
                    refine ST.lift (fun _ _ k => T_aload_n (v := .ref 373) d_Mo_block_407 rfl (Or.inr ⟨_, rfl⟩) k) ?_
                    refine S_getfield d_Mo_block_408 fg_Mo_49 (w373 _) rfl ?_
                    refine ST.lift (fun _ _ k => T_iload_n d_Mo_block_411 rfl k) ?_
                    refine ST.lift (fun _ _ k => T_dup2 d_Mo_block_412 rfl rfl k) ?_
                    refine S_laload d_Mo_block_413 a381 (vp_in_nI (by omega) (by omega)) (fun z135 => ?_)
                    refine ST.lift (fun _ _ k => T_aload_n (v := .ref 373) d_Mo_block_414 rfl (Or.inr ⟨_, rfl⟩) k) ?_
                    refine S_getfield d_Mo_block_415 fg_Mo_65 (w373 _) rfl ?_
                    refine ST.lift (fun _ _ k => T_iload_n d_Mo_block_418 rfl k) ?_
                    refine S_laload d_Mo_block_419 a382 (vp_in_nI (by omega) (by omega)) (fun z136 => ?_)
                    refine ST.lift (fun _ _ k => T_ladd d_Mo_block_420 k) (S_anyl fun z137 => ?_)
                    refine S_lastore d_Mo_block_421 (by decide) a381 (vp_in_nI (by omega) (by omega)) ?_
                    refine S_iincN (a := 1) (b := 1) (L' := [(2, .int (nI 2)), (0, .ref 373), (1, .int (nI pos))]) d_Mo_block_422 (by decide) rfl rfl rfl ?_
                    refine ST.lift (fun _ _ k => T_goto (tgt := 401) d_Mo_block_425 rfl k) ?_
                    refine ST.lift (fun _ _ k => T_iload_n d_Mo_block_401 rfl k) ?_
                    refine ST.lift (fun _ _ k => T_bipush (v := nI 8) d_Mo_block_402 (by decide) k) ?_
                    refine S_icmp_geN d_Mo_block_404 rfl (by omega) (by omega) (fun c => by first | exact absurd c (by omega) | exact c.elim | exact absurd c (by decide) | exact absurd (by assumption) c | exact absurd c (by assumption)) (fun _ => ?_)
                    refine ST.lift (fun _ _ k => T_aload_n (v := .ref 373) d_Mo_block_407 rfl (Or.inr ⟨_, rfl⟩) k) ?_
                    refine S_getfield d_Mo_block_408 fg_Mo_49 (w373 _) rfl ?_
                    refine ST.lift (fun _ _ k => T_iload_n d_Mo_block_411 rfl k) ?_
                    refine ST.lift (fun _ _ k => T_dup2 d_Mo_block_412 rfl rfl k) ?_
                    refine S_laload d_Mo_block_413 a381 (vp_in_nI (by omega) (by omega)) (fun z138 => ?_)
                    refine ST.lift (fun _ _ k => T_aload_n (v := .ref 373) d_Mo_block_414 rfl (Or.inr ⟨_, rfl⟩) k) ?_
                    refine S_getfield d_Mo_block_415 fg_Mo_65 (w373 _) rfl ?_
                    refine ST.lift (fun _ _ k => T_iload_n d_Mo_block_418 rfl k) ?_
                    refine S_laload d_Mo_block_419 a382 (vp_in_nI (by omega) (by omega)) (fun z139 => ?_)
                    refine ST.lift (fun _ _ k => T_ladd d_Mo_block_420 k) (S_anyl fun z140 => ?_)
                    refine S_lastore d_Mo_block_421 (by decide) a381 (vp_in_nI (by omega) (by omega)) ?_
                    refine S_iincN (a := 2) (b := 1) (L' := [(2, .int (nI 3)), (0, .ref 373), (1, .int (nI pos))]) d_Mo_block_422 (by decide) rfl rfl rfl ?_
                    refine ST.lift (fun _ _ k => T_goto (tgt := 401) d_Mo_block_425 rfl k) ?_
                    refine ST.lift (fun _ _ k => T_iload_n d_Mo_block_401 rfl k) ?_
                    refine ST.lift (fun _ _ k => T_bipush (v := nI 8) d_Mo_block_402 (by decide) k) ?_
                    refine S_icmp_geN d_Mo_block_404 rfl (by omega) (by omega) (fun c => by first | exact absurd c (by omega) | exact c.elim | exact absurd c (by decide) | exact absurd (by assumption) c | exact absurd c (by assumption)) (fun _ => ?_)
                    refine ST.lift (fun _ _ k => T_aload_n (v := .ref 373) d_Mo_block_407 rfl (Or.inr ⟨_, rfl⟩) k) ?_
                    refine S_getfield d_Mo_block_408 fg_Mo_49 (w373 _) rfl ?_
                    refine ST.lift (fun _ _ k => T_iload_n d_Mo_block_411 rfl k) ?_
                    refine ST.lift (fun _ _ k => T_dup2 d_Mo_block_412 rfl rfl k) ?_
                    refine S_laload d_Mo_block_413 a381 (vp_in_nI (by omega) (by omega)) (fun z141 => ?_)
                    refine ST.lift (fun _ _ k => T_aload_n (v := .ref 373) d_Mo_block_414 rfl (Or.inr ⟨_, rfl⟩) k) ?_
                    refine S_getfield d_Mo_block_415 fg_Mo_65 (w373 _) rfl ?_
                    refine ST.lift (fun _ _ k => T_iload_n d_Mo_block_418 rfl k) ?_
                    refine S_laload d_Mo_block_419 a382 (vp_in_nI (by omega) (by omega)) (fun z142 => ?_)
                    refine ST.lift (fun _ _ k => T_ladd d_Mo_block_420 k) (S_anyl fun z143 => ?_)
                    refine S_lastore d_Mo_block_421 (by decide) a381 (vp_in_nI (by omega) (by omega)) ?_
                    refine S_iincN (a := 3) (b := 1) (L' := [(2, .int (nI 4)), (0, .ref 373), (1, .int (nI pos))]) d_Mo_block_422 (by decide) rfl rfl rfl ?_
                    refine ST.lift (fun _ _ k => T_goto (tgt := 401) d_Mo_block_425 rfl k) ?_
                    refine ST.lift (fun _ _ k => T_iload_n d_Mo_block_401 rfl k) ?_
                    refine ST.lift (fun _ _ k => T_bipush (v := nI 8) d_Mo_block_402 (by decide) k) ?_
                    refine S_icmp_geN d_Mo_block_404 rfl (by omega) (by omega) (fun c => by first | exact absurd c (by omega) | exact c.elim | exact absurd c (by decide) | exact absurd (by assumption) c | exact absurd c (by assumption)) (fun _ => ?_)
                    refine ST.lift (fun _ _ k => T_aload_n (v := .ref 373) d_Mo_block_407 rfl (Or.inr ⟨_, rfl⟩) k) ?_
                    refine S_getfield d_Mo_block_408 fg_Mo_49 (w373 _) rfl ?_
                    refine ST.lift (fun _ _ k => T_iload_n d_Mo_block_411 rfl k) ?_
                    refine ST.lift (fun _ _ k => T_dup2 d_Mo_block_412 rfl rfl k) ?_
                    refine S_laload d_Mo_block_413 a381 (vp_in_nI (by omega) (by omega)) (fun z144 => ?_)
                    refine ST.lift (fun _ _ k => T_aload_n (v := .ref 373) d_Mo_block_414 rfl (Or.inr ⟨_, rfl⟩) k) ?_
                    refine S_getfield d_Mo_block_415 fg_Mo_65 (w373 _) rfl ?_
                    refine ST.lift (fun _ _ k => T_iload_n d_Mo_block_418 rfl k) ?_
                    refine S_laload d_Mo_block_419 a382 (vp_in_nI (by omega) (by omega)) (fun z145 => ?_)
                    refine ST.lift (fun _ _ k => T_ladd d_Mo_block_420 k) (S_anyl fun z146 => ?_)
                    refine S_lastore d_Mo_block_421 (by decide) a381 (vp_in_nI (by omega) (by omega)) ?_
                    refine S_iincN (a := 4) (b := 1) (L' := [(2, .int (nI 5)), (0, .ref 373), (1, .int (nI pos))]) d_Mo_block_422 (by decide) rfl rfl rfl ?_
                    refine ST.lift (fun _ _ k => T_goto (tgt := 401) d_Mo_block_425 rfl k) ?_
                    refine ST.lift (fun _ _ k => T_iload_n d_Mo_block_401 rfl k) ?_
                    refine ST.lift (fun _ _ k => T_bipush (v := nI 8) d_Mo_block_402 (by decide) k) ?_
                    refine S_icmp_geN d_Mo_block_404 rfl (by omega) (by omega) (fun c => by first | exact absurd c (by omega) | exact c.elim | exact absurd c (by decide) | exact absurd (by assumption) c | exact absurd c (by assumption)) (fun _ => ?_)
                    refine ST.lift (fun _ _ k => T_aload_n (v := .ref 373) d_Mo_block_407 rfl (Or.inr ⟨_, rfl⟩) k) ?_
                    refine S_getfield d_Mo_block_408 fg_Mo_49 (w373 _) rfl ?_
                    refine ST.lift (fun _ _ k => T_iload_n d_Mo_block_411 rfl k) ?_
                    refine ST.lift (fun _ _ k => T_dup2 d_Mo_block_412 rfl rfl k) ?_
                    refine S_laload d_Mo_block_413 a381 (vp_in_nI (by omega) (by omega)) (fun z147 => ?_)
                    refine ST.lift (fun _ _ k => T_aload_n (v := .ref 373) d_Mo_block_414 rfl (Or.inr ⟨_, rfl⟩) k) ?_
                    refine S_getfield d_Mo_block_415 fg_Mo_65 (w373 _) rfl ?_
                    refine ST.lift (fun _ _ k => T_iload_n d_Mo_block_418 rfl k) ?_
                    refine S_laload d_Mo_block_419 a382 (vp_in_nI (by omega) (by omega)) (fun z148 => ?_)
                    refine ST.lift (fun _ _ k => T_ladd d_Mo_block_420 k) (S_anyl fun z149 => ?_)
                    refine S_lastore d_Mo_block_421 (by decide) a381 (vp_in_nI (by omega) (by omega)) ?_
                    refine S_iincN (a := 5) (b := 1) (L' := [(2, .int (nI 6)), (0, .ref 373), (1, .int (nI pos))]) d_Mo_block_422 (by decide) rfl rfl rfl ?_
                    refine ST.lift (fun _ _ k => T_goto (tgt := 401) d_Mo_block_425 rfl k) ?_
                    refine ST.lift (fun _ _ k => T_iload_n d_Mo_block_401 rfl k) ?_
                    refine ST.lift (fun _ _ k => T_bipush (v := nI 8) d_Mo_block_402 (by decide) k) ?_
                    refine S_icmp_geN d_Mo_block_404 rfl (by omega) (by omega) (fun c => by first | exact absurd c (by omega) | exact c.elim | exact absurd c (by decide) | exact absurd (by assumption) c | exact absurd c (by assumption)) (fun _ => ?_)
                    refine ST.lift (fun _ _ k => T_aload_n (v := .ref 373) d_Mo_block_407 rfl (Or.inr ⟨_, rfl⟩) k) ?_
                    refine S_getfield d_Mo_block_408 fg_Mo_49 (w373 _) rfl ?_
                    refine ST.lift (fun _ _ k => T_iload_n d_Mo_block_411 rfl k) ?_
                    refine ST.lift (fun _ _ k => T_dup2 d_Mo_block_412 rfl rfl k) ?_
                    refine S_laload d_Mo_block_413 a381 (vp_in_nI (by omega) (by omega)) (fun z150 => ?_)
                    refine ST.lift (fun _ _ k => T_aload_n (v := .ref 373) d_Mo_block_414 rfl (Or.inr ⟨_, rfl⟩) k) ?_
                    refine S_getfield d_Mo_block_415 fg_Mo_65 (w373 _) rfl ?_
                    refine ST.lift (fun _ _ k => T_iload_n d_Mo_block_418 rfl k) ?_
                    refine S_laload d_Mo_block_419 a382 (vp_in_nI (by omega) (by omega)) (fun z151 => ?_)
                    refine ST.lift (fun _ _ k => T_ladd d_Mo_block_420 k) (S_anyl fun z152 => ?_)
                    refine S_lastore d_Mo_block_421 (by decide) a381 (vp_in_nI (by omega) (by omega)) ?_
                    refine S_iincN (a := 6) (b := 1) (L' := [(2, .int (nI 7)), (0, .ref 373), (1, .int (nI pos))]) d_Mo_block_422 (by decide) rfl rfl rfl ?_
                    refine ST.lift (fun _ _ k => T_goto (tgt := 401) d_Mo_block_425 rfl k) ?_
                    refine ST.lift (fun _ _ k => T_iload_n d_Mo_block_401 rfl k) ?_
                    refine ST.lift (fun _ _ k => T_bipush (v := nI 8) d_Mo_block_402 (by decide) k) ?_
                    refine S_icmp_geN d_Mo_block_404 rfl (by omega) (by omega) (fun c => by first | exact absurd c (by omega) | exact c.elim | exact absurd c (by decide) | exact absurd (by assumption) c | exact absurd c (by assumption)) (fun _ => ?_)
                    refine ST.lift (fun _ _ k => T_aload_n (v := .ref 373) d_Mo_block_407 rfl (Or.inr ⟨_, rfl⟩) k) ?_
                    refine S_getfield d_Mo_block_408 fg_Mo_49 (w373 _) rfl ?_
                    refine ST.lift (fun _ _ k => T_iload_n d_Mo_block_411 rfl k) ?_
                    refine ST.lift (fun _ _ k => T_dup2 d_Mo_block_412 rfl rfl k) ?_
                    refine S_laload d_Mo_block_413 a381 (vp_in_nI (by omega) (by omega)) (fun z153 => ?_)
                    refine ST.lift (fun _ _ k => T_aload_n (v := .ref 373) d_Mo_block_414 rfl (Or.inr ⟨_, rfl⟩) k) ?_
                    refine S_getfield d_Mo_block_415 fg_Mo_65 (w373 _) rfl ?_
                    refine ST.lift (fun _ _ k => T_iload_n d_Mo_block_418 rfl k) ?_
                    refine S_laload d_Mo_block_419 a382 (vp_in_nI (by omega) (by omega)) (fun z154 => ?_)
                    refine ST.lift (fun _ _ k => T_ladd d_Mo_block_420 k) (S_anyl fun z155 => ?_)
                    refine S_lastore d_Mo_block_421 (by decide) a381 (vp_in_nI (by omega) (by omega)) ?_
                    refine S_iincN (a := 7) (b := 1) (L' := [(2, .int (nI 8)), (0, .ref 373), (1, .int (nI pos))]) d_Mo_block_422 (by decide) rfl rfl rfl ?_
                    refine ST.lift (fun _ _ k => T_goto (tgt := 401) d_Mo_block_425 rfl k) ?_
                    refine ST.lift (fun _ _ k => T_iload_n d_Mo_block_401 rfl k) ?_
                    refine ST.lift (fun _ _ k => T_bipush (v := nI 8) d_Mo_block_402 (by decide) k) ?_
                    refine S_icmp_geN d_Mo_block_404 rfl (by omega) (by omega) (fun _ => ?_) (fun c => by first | exact absurd c (by omega) | exact c.elim | exact absurd c (by decide) | exact absurd (by assumption) c | exact absurd c (by assumption))
                    exact S_vret d_Mo_block_428 rfl (by decide) (by decide) hQ
                  · refine ST.lift (fun _ _ k => T_aload_n (v := .ref 373) d_Mo_block_199 rfl (Or.inr ⟨_, rfl⟩) k) ?_
                    refine S_getfield d_Mo_block_200 fg_Mo_65 (w373 _) rfl ?_
                    refine ST.lift (fun _ _ k => T_iconst (v := nI 4) d_Mo_block_203 (by decide) k) ?_
                    refine S_laload d_Mo_block_204 a382 (vp_in_nI (by omega) (by omega)) (fun z156 => ?_)
                    refine ST.lift (fun _ _ k => T_lstore_n (L' := [(3, .long z156), (2, .int (nI k80)), (0, .ref 373), (1, .int (nI pos))]) d_Mo_block_205 (by decide) rfl k) ?_
                    refine ST.lift (fun _ _ k => T_aload_n (v := .ref 373) d_Mo_block_206 rfl (Or.inr ⟨_, rfl⟩) k) ?_
                    refine S_getfield d_Mo_block_207 fg_Mo_65 (w373 _) rfl ?_
                    refine ST.lift (fun _ _ k => T_iconst (v := nI 0) d_Mo_block_210 (by decide) k) ?_
                    refine S_laload d_Mo_block_211 a382 (vp_in_nI (by omega) (by omega)) (fun z157 => ?_)
                    refine ST.lift (fun _ _ k => T_lstore (L' := [(5, .long z157), (3, .long z156), (2, .int (nI k80)), (0, .ref 373), (1, .int (nI pos))]) d_Mo_block_212 (by decide) rfl k) ?_
                    refine ST.lift (fun _ _ k => T_aload_n (v := .ref 373) d_Mo_block_214 rfl (Or.inr ⟨_, rfl⟩) k) ?_
                    refine S_getfield d_Mo_block_215 fg_Mo_65 (w373 _) rfl ?_
                    refine ST.lift (fun _ _ k => T_bipush (v := nI 7) d_Mo_block_218 (by decide) k) ?_
                    refine S_laload d_Mo_block_220 a382 (vp_in_nI (by omega) (by omega)) (fun z158 => ?_)
                    refine ST.lift (fun _ _ k => T_lload_n d_Mo_block_221 rfl k) ?_
                    refine ST.lift (fun _ _ k => T_bipush (v := nI 14) d_Mo_block_222 (by decide) k) ?_
                    refine S_static (as := [.long z156, .int (nI 14)]) (rest := [.long z158]) d_Mo_block_224 rfl (jw_Mo_turn.jo (by decide)) lm_Mo_61 jt_Mo_turn rfl (Nat.le_of_ble_eq_true rfl) (by decide) (by decide) (c_Mo_turn G v z156 (nI 14)) (fun r v' hq => ?_)
                    obtain ⟨z159, hr, hv⟩ := hq
                    rw [hr, hv]
                    clear hr hv r v'
                    show ST G mi_Mo_block 227 [(5, .long z157), (3, .long z156), (2, .int (nI k80)), (0, .ref 373), (1, .int (nI pos))] [.long z159, .long z158] v 0 0 _
                    refine ST.lift (fun _ _ k => T_lload_n d_Mo_block_227 rfl k) ?_
                    refine ST.lift (fun _ _ k => T_bipush (v := nI 18) d_Mo_block_228 (by decide) k) ?_
                    refine S_static (as := [.long z156, .int (nI 18)]) (rest := [.long z159, .long z158]) d_Mo_block_230 rfl (jw_Mo_turn.jo (by decide)) lm_Mo_61 jt_Mo_turn rfl (Nat.le_of_ble_eq_true rfl) (by decide) (by decide) (c_Mo_turn G v z156 (nI 18)) (fun r v' hq => ?_)
                    obtain ⟨z160, hr, hv⟩ := hq
                    rw [hr, hv]
                    clear hr hv r v'
                    show ST G mi_Mo_block 233 [(5, .long z157), (3, .long z156), (2, .int (nI k80)), (0, .ref 373), (1, .int (nI pos))] [.long z160, .long z159, .long z158] v 0 0 _
                    refine ST.lift (fun _ _ k => T_lxor d_Mo_block_233 k) (S_anyl fun z161 => ?_)
                    refine ST.lift (fun _ _ k => T_lload_n d_Mo_block_234 rfl k) ?_
                    refine ST.lift (fun _ _ k => T_bipush (v := nI 41) d_Mo_block_235 (by decide) k) ?_
                    refine S_static (as := [.long z156, .int (nI 41)]) (rest := [.long z161, .long z158]) d_Mo_block_237 rfl (jw_Mo_turn.jo (by decide)) lm_Mo_61 jt_Mo_turn rfl (Nat.le_of_ble_eq_true rfl) (by decide) (by decide) (c_Mo_turn G v z156 (nI 41)) (fun r v' hq => ?_)
                    obtain ⟨z162, hr, hv⟩ := hq
                    rw [hr, hv]
                    clear hr hv r v'
                    show ST G mi_Mo_block 240 [(5, .long z157), (3, .long z156), (2, .int (nI k80)), (0, .ref 373), (1, .int (nI pos))] [.long z162, .long z161, .long z158] v 0 0 _
                    refine ST.lift (fun _ _ k => T_lxor d_Mo_block_240 k) (S_anyl fun z163 => ?_)
                    refine ST.lift (fun _ _ k => T_ladd d_Mo_block_241 k) (S_anyl fun z164 => ?_)
                    refine ST.lift (fun _ _ k => T_lload_n d_Mo_block_242 rfl k) ?_
                    refine ST.lift (fun _ _ k => T_aload_n (v := .ref 373) d_Mo_block_243 rfl (Or.inr ⟨_, rfl⟩) k) ?_
                    refine S_getfield d_Mo_block_244 fg_Mo_65 (w373 _) rfl ?_
                    refine ST.lift (fun _ _ k => T_iconst (v := nI 5) d_Mo_block_247 (by decide) k) ?_
                    refine S_laload d_Mo_block_248 a382 (vp_in_nI (by omega) (by omega)) (fun z165 => ?_)
                    refine ST.lift (fun _ _ k => T_land d_Mo_block_249 k) (S_anyl fun z166 => ?_)
                    refine ST.lift (fun _ _ k => T_lload_n d_Mo_block_250 rfl k) ?_
                    refine ST.lift (fun _ _ k => T_ldc2 d_Mo_block_251 kJ_Mo_68 k) ?_
                    refine ST.lift (fun _ _ k => T_lxor d_Mo_block_254 k) (S_anyl fun z167 => ?_)
                    refine ST.lift (fun _ _ k => T_aload_n (v := .ref 373) d_Mo_block_255 rfl (Or.inr ⟨_, rfl⟩) k) ?_
                    refine S_getfield d_Mo_block_256 fg_Mo_65 (w373 _) rfl ?_
                    refine ST.lift (fun _ _ k => T_bipush (v := nI 6) d_Mo_block_259 (by decide) k) ?_
                    refine S_laload d_Mo_block_261 a382 (vp_in_nI (by omega) (by omega)) (fun z168 => ?_)
                    refine ST.lift (fun _ _ k => T_land d_Mo_block_262 k) (S_anyl fun z169 => ?_)
                    refine ST.lift (fun _ _ k => T_lxor d_Mo_block_263 k) (S_anyl fun z170 => ?_)
                    refine ST.lift (fun _ _ k => T_ladd d_Mo_block_264 k) (S_anyl fun z171 => ?_)
                    refine ST.lift (fun _ _ k => T_aload_n (v := .ref 373) d_Mo_block_265 rfl (Or.inr ⟨_, rfl⟩) k) ?_
                    refine S_getfield d_Mo_block_266 fg_Mo_35 (w373 _) rfl ?_
                    refine ST.lift (fun _ _ k => T_iload_n d_Mo_block_269 rfl k) ?_
                    refine S_laload d_Mo_block_270 a375 (vp_in_nI (by omega) (by omega)) (fun z172 => ?_)
                    refine ST.lift (fun _ _ k => T_ladd d_Mo_block_271 k) (S_anyl fun z173 => ?_)
                    refine ST.lift (fun _ _ k => T_aload_n (v := .ref 373) d_Mo_block_272 rfl (Or.inr ⟨_, rfl⟩) k) ?_
                    refine S_getfield d_Mo_block_273 fg_Mo_58 (w373 _) rfl ?_
                    refine ST.lift (fun _ _ k => T_iload_n d_Mo_block_276 rfl k) ?_
                    refine S_laload d_Mo_block_277 a380 (vp_in_nI (by omega) (by omega)) (fun z174 => ?_)
                    refine ST.lift (fun _ _ k => T_ladd d_Mo_block_278 k) (S_anyl fun z175 => ?_)
                    refine ST.lift (fun _ _ k => T_lstore (L' := [(7, .long z175), (5, .long z157), (3, .long z156), (2, .int (nI k80)), (0, .ref 373), (1, .int (nI pos))]) d_Mo_block_279 (by decide) rfl k) ?_
                    refine ST.lift (fun _ _ k => T_lload d_Mo_block_281 rfl k) ?_
                    refine ST.lift (fun _ _ k => T_bipush (v := nI 28) d_Mo_block_283 (by decide) k) ?_
                    refine S_static (as := [.long z157, .int (nI 28)]) (rest := []) d_Mo_block_285 rfl (jw_Mo_turn.jo (by decide)) lm_Mo_61 jt_Mo_turn rfl (Nat.le_of_ble_eq_true rfl) (by decide) (by decide) (c_Mo_turn G v z157 (nI 28)) (fun r v' hq => ?_)
                    obtain ⟨z176, hr, hv⟩ := hq
                    rw [hr, hv]
                    clear hr hv r v'
                    show ST G mi_Mo_block 288 [(7, .long z175), (5, .long z157), (3, .long z156), (2, .int (nI k80)), (0, .ref 373), (1, .int (nI pos))] [.long z176] v 0 0 _
                    refine ST.lift (fun _ _ k => T_lload d_Mo_block_288 rfl k) ?_
                    refine ST.lift (fun _ _ k => T_bipush (v := nI 34) d_Mo_block_290 (by decide) k) ?_
                    refine S_static (as := [.long z157, .int (nI 34)]) (rest := [.long z176]) d_Mo_block_292 rfl (jw_Mo_turn.jo (by decide)) lm_Mo_61 jt_Mo_turn rfl (Nat.le_of_ble_eq_true rfl) (by decide) (by decide) (c_Mo_turn G v z157 (nI 34)) (fun r v' hq => ?_)
                    obtain ⟨z177, hr, hv⟩ := hq
                    rw [hr, hv]
                    clear hr hv r v'
                    show ST G mi_Mo_block 295 [(7, .long z175), (5, .long z157), (3, .long z156), (2, .int (nI k80)), (0, .ref 373), (1, .int (nI pos))] [.long z177, .long z176] v 0 0 _
                    refine ST.lift (fun _ _ k => T_lxor d_Mo_block_295 k) (S_anyl fun z178 => ?_)
                    refine ST.lift (fun _ _ k => T_lload d_Mo_block_296 rfl k) ?_
                    refine ST.lift (fun _ _ k => T_bipush (v := nI 39) d_Mo_block_298 (by decide) k) ?_
                    refine S_static (as := [.long z157, .int (nI 39)]) (rest := [.long z178]) d_Mo_block_300 rfl (jw_Mo_turn.jo (by decide)) lm_Mo_61 jt_Mo_turn rfl (Nat.le_of_ble_eq_true rfl) (by decide) (by decide) (c_Mo_turn G v z157 (nI 39)) (fun r v' hq => ?_)
                    obtain ⟨z179, hr, hv⟩ := hq
                    rw [hr, hv]
                    clear hr hv r v'
                    show ST G mi_Mo_block 303 [(7, .long z175), (5, .long z157), (3, .long z156), (2, .int (nI k80)), (0, .ref 373), (1, .int (nI pos))] [.long z179, .long z178] v 0 0 _
                    refine ST.lift (fun _ _ k => T_lxor d_Mo_block_303 k) (S_anyl fun z180 => ?_)
                    refine ST.lift (fun _ _ k => T_lload d_Mo_block_304 rfl k) ?_
                    refine ST.lift (fun _ _ k => T_aload_n (v := .ref 373) d_Mo_block_306 rfl (Or.inr ⟨_, rfl⟩) k) ?_
                    refine S_getfield d_Mo_block_307 fg_Mo_65 (w373 _) rfl ?_
                    refine ST.lift (fun _ _ k => T_iconst (v := nI 1) d_Mo_block_310 (by decide) k) ?_
                    refine S_laload d_Mo_block_311 a382 (vp_in_nI (by omega) (by omega)) (fun z181 => ?_)
                    refine ST.lift (fun _ _ k => T_land d_Mo_block_312 k) (S_anyl fun z182 => ?_)
                    refine ST.lift (fun _ _ k => T_lload d_Mo_block_313 rfl k) ?_
                    refine ST.lift (fun _ _ k => T_aload_n (v := .ref 373) d_Mo_block_315 rfl (Or.inr ⟨_, rfl⟩) k) ?_
                    refine S_getfield d_Mo_block_316 fg_Mo_65 (w373 _) rfl ?_
                    refine ST.lift (fun _ _ k => T_iconst (v := nI 2) d_Mo_block_319 (by decide) k) ?_
                    refine S_laload d_Mo_block_320 a382 (vp_in_nI (by omega) (by omega)) (fun z183 => ?_)
                    refine ST.lift (fun _ _ k => T_land d_Mo_block_321 k) (S_anyl fun z184 => ?_)
                    refine ST.lift (fun _ _ k => T_lxor d_Mo_block_322 k) (S_anyl fun z185 => ?_)
                    refine ST.lift (fun _ _ k => T_aload_n (v := .ref 373) d_Mo_block_323 rfl (Or.inr ⟨_, rfl⟩) k) ?_
                    refine S_getfield d_Mo_block_324 fg_Mo_65 (w373 _) rfl ?_
                    refine ST.lift (fun _ _ k => T_iconst (v := nI 1) d_Mo_block_327 (by decide) k) ?_
                    refine S_laload d_Mo_block_328 a382 (vp_in_nI (by omega) (by omega)) (fun z186 => ?_)
                    refine ST.lift (fun _ _ k => T_aload_n (v := .ref 373) d_Mo_block_329 rfl (Or.inr ⟨_, rfl⟩) k) ?_
                    refine S_getfield d_Mo_block_330 fg_Mo_65 (w373 _) rfl ?_
                    refine ST.lift (fun _ _ k => T_iconst (v := nI 2) d_Mo_block_333 (by decide) k) ?_
                    refine S_laload d_Mo_block_334 a382 (vp_in_nI (by omega) (by omega)) (fun z187 => ?_)
                    refine ST.lift (fun _ _ k => T_land d_Mo_block_335 k) (S_anyl fun z188 => ?_)
                    refine ST.lift (fun _ _ k => T_lxor d_Mo_block_336 k) (S_anyl fun z189 => ?_)
                    refine ST.lift (fun _ _ k => T_ladd d_Mo_block_337 k) (S_anyl fun z190 => ?_)
                    refine ST.lift (fun _ _ k => T_lstore (L' := [(9, .long z190), (7, .long z175), (5, .long z157), (3, .long z156), (2, .int (nI k80)), (0, .ref 373), (1, .int (nI pos))]) d_Mo_block_338 (by decide) rfl k) ?_
                    refine ST.lift (fun _ _ k => T_bipush (v := nI 7) d_Mo_block_340 (by decide) k) ?_
                    refine ST.lift (fun _ _ k => T_istore (L' := [(11, .int (nI 7)), (9, .long z190), (7, .long z175), (5, .long z157), (3, .long z156), (2, .int (nI k80)), (0, .ref 373), (1, .int (nI pos))]) d_Mo_block_342 (by decide) rfl k) ?_
                    refine ST.lift (fun _ _ k => T_iload d_Mo_block_344 rfl k) ?_
                    refine S_if_leN d_Mo_block_346 rfl (by omega) (fun c => by first | exact absurd c (by omega) | exact c.elim | exact absurd c (by decide) | exact absurd (by assumption) c | exact absurd c (by assumption)) (fun _ => ?_)
                    refine ST.lift (fun _ _ k => T_aload_n (v := .ref 373) d_Mo_block_349 rfl (Or.inr ⟨_, rfl⟩) k) ?_
                    refine S_getfield d_Mo_block_350 fg_Mo_65 (w373 _) rfl ?_
                    refine ST.lift (fun _ _ k => T_iload d_Mo_block_353 rfl k) ?_
                    refine ST.lift (fun _ _ k => T_aload_n (v := .ref 373) d_Mo_block_355 rfl (Or.inr ⟨_, rfl⟩) k) ?_
                    refine S_getfield d_Mo_block_356 fg_Mo_65 (w373 _) rfl ?_
                    refine ST.lift (fun _ _ k => T_iload d_Mo_block_359 rfl k) ?_
                    refine ST.lift (fun _ _ k => T_iconst (v := nI 1) d_Mo_block_361 (by decide) k) ?_
                    refine S_isubN d_Mo_block_362 (by omega) ?_
                    refine S_topi (y := nI 6) (by decide) ?_
                    refine S_laload d_Mo_block_363 a382 (vp_in_nI (by omega) (by omega)) (fun z191 => ?_)
                    refine S_lastore d_Mo_block_364 (by decide) a382 (vp_in_nI (by omega) (by omega)) ?_
                    refine ST.lift (fun _ _ k => T_iinc (x := nI 7) (L' := [(11, .int (nI 6)), (9, .long z190), (7, .long z175), (5, .long z157), (3, .long z156), (2, .int (nI k80)), (0, .ref 373), (1, .int (nI pos))]) d_Mo_block_365 (by decide) rfl (by rw [show nI 7 + Int32.ofInt (-1) = nI 6 by decide]; rfl) k) ?_
                    refine ST.lift (fun _ _ k => T_goto (tgt := 344) d_Mo_block_368 rfl k) ?_
                    refine ST.lift (fun _ _ k => T_iload d_Mo_block_344 rfl k) ?_
                    refine S_if_leN d_Mo_block_346 rfl (by omega) (fun c => by first | exact absurd c (by omega) | exact c.elim | exact absurd c (by decide) | exact absurd (by assumption) c | exact absurd c (by assumption)) (fun _ => ?_)
                    refine ST.lift (fun _ _ k => T_aload_n (v := .ref 373) d_Mo_block_349 rfl (Or.inr ⟨_, rfl⟩) k) ?_
                    refine S_getfield d_Mo_block_350 fg_Mo_65 (w373 _) rfl ?_
                    refine ST.lift (fun _ _ k => T_iload d_Mo_block_353 rfl k) ?_
                    refine ST.lift (fun _ _ k => T_aload_n (v := .ref 373) d_Mo_block_355 rfl (Or.inr ⟨_, rfl⟩) k) ?_
                    refine S_getfield d_Mo_block_356 fg_Mo_65 (w373 _) rfl ?_
                    refine ST.lift (fun _ _ k => T_iload d_Mo_block_359 rfl k) ?_
                    refine ST.lift (fun _ _ k => T_iconst (v := nI 1) d_Mo_block_361 (by decide) k) ?_
                    refine S_isubN d_Mo_block_362 (by omega) ?_
                    refine S_topi (y := nI 5) (by decide) ?_
                    refine S_laload d_Mo_block_363 a382 (vp_in_nI (by omega) (by omega)) (fun z192 => ?_)
                    refine S_lastore d_Mo_block_364 (by decide) a382 (vp_in_nI (by omega) (by omega)) ?_
                    refine ST.lift (fun _ _ k => T_iinc (x := nI 6) (L' := [(11, .int (nI 5)), (9, .long z190), (7, .long z175), (5, .long z157), (3, .long z156), (2, .int (nI k80)), (0, .ref 373), (1, .int (nI pos))]) d_Mo_block_365 (by decide) rfl (by rw [show nI 6 + Int32.ofInt (-1) = nI 5 by decide]; rfl) k) ?_
                    refine ST.lift (fun _ _ k => T_goto (tgt := 344) d_Mo_block_368 rfl k) ?_
                    refine ST.lift (fun _ _ k => T_iload d_Mo_block_344 rfl k) ?_
                    refine S_if_leN d_Mo_block_346 rfl (by omega) (fun c => by first | exact absurd c (by omega) | exact c.elim | exact absurd c (by decide) | exact absurd (by assumption) c | exact absurd c (by assumption)) (fun _ => ?_)
                    refine ST.lift (fun _ _ k => T_aload_n (v := .ref 373) d_Mo_block_349 rfl (Or.inr ⟨_, rfl⟩) k) ?_
                    refine S_getfield d_Mo_block_350 fg_Mo_65 (w373 _) rfl ?_
                    refine ST.lift (fun _ _ k => T_iload d_Mo_block_353 rfl k) ?_
                    refine ST.lift (fun _ _ k => T_aload_n (v := .ref 373) d_Mo_block_355 rfl (Or.inr ⟨_, rfl⟩) k) ?_
                    refine S_getfield d_Mo_block_356 fg_Mo_65 (w373 _) rfl ?_
                    refine ST.lift (fun _ _ k => T_iload d_Mo_block_359 rfl k) ?_
                    refine ST.lift (fun _ _ k => T_iconst (v := nI 1) d_Mo_block_361 (by decide) k) ?_
                    refine S_isubN d_Mo_block_362 (by omega) ?_
                    refine S_topi (y := nI 4) (by decide) ?_
                    refine S_laload d_Mo_block_363 a382 (vp_in_nI (by omega) (by omega)) (fun z193 => ?_)
                    refine S_lastore d_Mo_block_364 (by decide) a382 (vp_in_nI (by omega) (by omega)) ?_
                    refine ST.lift (fun _ _ k => T_iinc (x := nI 5) (L' := [(11, .int (nI 4)), (9, .long z190), (7, .long z175), (5, .long z157), (3, .long z156), (2, .int (nI k80)), (0, .ref 373), (1, .int (nI pos))]) d_Mo_block_365 (by decide) rfl (by rw [show nI 5 + Int32.ofInt (-1) = nI 4 by decide]; rfl) k) ?_
                    refine ST.lift (fun _ _ k => T_goto (tgt := 344) d_Mo_block_368 rfl k) ?_
                    refine ST.lift (fun _ _ k => T_iload d_Mo_block_344 rfl k) ?_
                    refine S_if_leN d_Mo_block_346 rfl (by omega) (fun c => by first | exact absurd c (by omega) | exact c.elim | exact absurd c (by decide) | exact absurd (by assumption) c | exact absurd c (by assumption)) (fun _ => ?_)
                    refine ST.lift (fun _ _ k => T_aload_n (v := .ref 373) d_Mo_block_349 rfl (Or.inr ⟨_, rfl⟩) k) ?_
                    refine S_getfield d_Mo_block_350 fg_Mo_65 (w373 _) rfl ?_
                    refine ST.lift (fun _ _ k => T_iload d_Mo_block_353 rfl k) ?_
                    refine ST.lift (fun _ _ k => T_aload_n (v := .ref 373) d_Mo_block_355 rfl (Or.inr ⟨_, rfl⟩) k) ?_
                    refine S_getfield d_Mo_block_356 fg_Mo_65 (w373 _) rfl ?_
                    refine ST.lift (fun _ _ k => T_iload d_Mo_block_359 rfl k) ?_
                    refine ST.lift (fun _ _ k => T_iconst (v := nI 1) d_Mo_block_361 (by decide) k) ?_
                    refine S_isubN d_Mo_block_362 (by omega) ?_
                    refine S_topi (y := nI 3) (by decide) ?_
                    refine S_laload d_Mo_block_363 a382 (vp_in_nI (by omega) (by omega)) (fun z194 => ?_)
                    refine S_lastore d_Mo_block_364 (by decide) a382 (vp_in_nI (by omega) (by omega)) ?_
                    refine ST.lift (fun _ _ k => T_iinc (x := nI 4) (L' := [(11, .int (nI 3)), (9, .long z190), (7, .long z175), (5, .long z157), (3, .long z156), (2, .int (nI k80)), (0, .ref 373), (1, .int (nI pos))]) d_Mo_block_365 (by decide) rfl (by rw [show nI 4 + Int32.ofInt (-1) = nI 3 by decide]; rfl) k) ?_
                    refine ST.lift (fun _ _ k => T_goto (tgt := 344) d_Mo_block_368 rfl k) ?_
                    refine ST.lift (fun _ _ k => T_iload d_Mo_block_344 rfl k) ?_
                    refine S_if_leN d_Mo_block_346 rfl (by omega) (fun c => by first | exact absurd c (by omega) | exact c.elim | exact absurd c (by decide) | exact absurd (by assumption) c | exact absurd c (by assumption)) (fun _ => ?_)
                    refine ST.lift (fun _ _ k => T_aload_n (v := .ref 373) d_Mo_block_349 rfl (Or.inr ⟨_, rfl⟩) k) ?_
                    refine S_getfield d_Mo_block_350 fg_Mo_65 (w373 _) rfl ?_
                    refine ST.lift (fun _ _ k => T_iload d_Mo_block_353 rfl k) ?_
                    refine ST.lift (fun _ _ k => T_aload_n (v := .ref 373) d_Mo_block_355 rfl (Or.inr ⟨_, rfl⟩) k) ?_
                    refine S_getfield d_Mo_block_356 fg_Mo_65 (w373 _) rfl ?_
                    refine ST.lift (fun _ _ k => T_iload d_Mo_block_359 rfl k) ?_
                    refine ST.lift (fun _ _ k => T_iconst (v := nI 1) d_Mo_block_361 (by decide) k) ?_
                    refine S_isubN d_Mo_block_362 (by omega) ?_
                    refine S_topi (y := nI 2) (by decide) ?_
                    refine S_laload d_Mo_block_363 a382 (vp_in_nI (by omega) (by omega)) (fun z195 => ?_)
                    refine S_lastore d_Mo_block_364 (by decide) a382 (vp_in_nI (by omega) (by omega)) ?_
                    refine ST.lift (fun _ _ k => T_iinc (x := nI 3) (L' := [(11, .int (nI 2)), (9, .long z190), (7, .long z175), (5, .long z157), (3, .long z156), (2, .int (nI k80)), (0, .ref 373), (1, .int (nI pos))]) d_Mo_block_365 (by decide) rfl (by rw [show nI 3 + Int32.ofInt (-1) = nI 2 by decide]; rfl) k) ?_
                    refine ST.lift (fun _ _ k => T_goto (tgt := 344) d_Mo_block_368 rfl k) ?_
                    refine ST.lift (fun _ _ k => T_iload d_Mo_block_344 rfl k) ?_
                    refine S_if_leN d_Mo_block_346 rfl (by omega) (fun c => by first | exact absurd c (by omega) | exact c.elim | exact absurd c (by decide) | exact absurd (by assumption) c | exact absurd c (by assumption)) (fun _ => ?_)
                    refine ST.lift (fun _ _ k => T_aload_n (v := .ref 373) d_Mo_block_349 rfl (Or.inr ⟨_, rfl⟩) k) ?_
                    refine S_getfield d_Mo_block_350 fg_Mo_65 (w373 _) rfl ?_
                    refine ST.lift (fun _ _ k => T_iload d_Mo_block_353 rfl k) ?_
                    refine ST.lift (fun _ _ k => T_aload_n (v := .ref 373) d_Mo_block_355 rfl (Or.inr ⟨_, rfl⟩) k) ?_
                    refine S_getfield d_Mo_block_356 fg_Mo_65 (w373 _) rfl ?_
                    refine ST.lift (fun _ _ k => T_iload d_Mo_block_359 rfl k) ?_
                    refine ST.lift (fun _ _ k => T_iconst (v := nI 1) d_Mo_block_361 (by decide) k) ?_
                    refine S_isubN d_Mo_block_362 (by omega) ?_
                    refine S_topi (y := nI 1) (by decide) ?_
                    refine S_laload d_Mo_block_363 a382 (vp_in_nI (by omega) (by omega)) (fun z196 => ?_)
                    refine S_lastore d_Mo_block_364 (by decide) a382 (vp_in_nI (by omega) (by omega)) ?_
                    refine ST.lift (fun _ _ k => T_iinc (x := nI 2) (L' := [(11, .int (nI 1)), (9, .long z190), (7, .long z175), (5, .long z157), (3, .long z156), (2, .int (nI k80)), (0, .ref 373), (1, .int (nI pos))]) d_Mo_block_365 (by decide) rfl (by rw [show nI 2 + Int32.ofInt (-1) = nI 1 by decide]; rfl) k) ?_
                    refine ST.lift (fun _ _ k => T_goto (tgt := 344) d_Mo_block_368 rfl k) ?_
                    refine ST.lift (fun _ _ k => T_iload d_Mo_block_344 rfl k) ?_
                    refine S_if_leN d_Mo_block_346 rfl (by omega) (fun c => by first | exact absurd c (by omega) | exact c.elim | exact absurd c (by decide) | exact absurd (by assumption) c | exact absurd c (by assumption)) (fun _ => ?_)
                    refine ST.lift (fun _ _ k => T_aload_n (v := .ref 373) d_Mo_block_349 rfl (Or.inr ⟨_, rfl⟩) k) ?_
                    refine S_getfield d_Mo_block_350 fg_Mo_65 (w373 _) rfl ?_
                    refine ST.lift (fun _ _ k => T_iload d_Mo_block_353 rfl k) ?_
                    refine ST.lift (fun _ _ k => T_aload_n (v := .ref 373) d_Mo_block_355 rfl (Or.inr ⟨_, rfl⟩) k) ?_
                    refine S_getfield d_Mo_block_356 fg_Mo_65 (w373 _) rfl ?_
                    refine ST.lift (fun _ _ k => T_iload d_Mo_block_359 rfl k) ?_
                    refine ST.lift (fun _ _ k => T_iconst (v := nI 1) d_Mo_block_361 (by decide) k) ?_
                    refine S_isubN d_Mo_block_362 (by omega) ?_
                    refine S_topi (y := nI 0) (by decide) ?_
                    refine S_laload d_Mo_block_363 a382 (vp_in_nI (by omega) (by omega)) (fun z197 => ?_)
                    refine S_lastore d_Mo_block_364 (by decide) a382 (vp_in_nI (by omega) (by omega)) ?_
                    refine ST.lift (fun _ _ k => T_iinc (x := nI 1) (L' := [(11, .int (nI 0)), (9, .long z190), (7, .long z175), (5, .long z157), (3, .long z156), (2, .int (nI k80)), (0, .ref 373), (1, .int (nI pos))]) d_Mo_block_365 (by decide) rfl (by rw [show nI 1 + Int32.ofInt (-1) = nI 0 by decide]; rfl) k) ?_
                    refine ST.lift (fun _ _ k => T_goto (tgt := 344) d_Mo_block_368 rfl k) ?_
                    refine ST.lift (fun _ _ k => T_iload d_Mo_block_344 rfl k) ?_
                    refine S_if_leN d_Mo_block_346 rfl (by omega) (fun _ => ?_) (fun c => by first | exact absurd c (by omega) | exact c.elim | exact absurd c (by decide) | exact absurd (by assumption) c | exact absurd c (by assumption))
                    refine ST.lift (fun _ _ k => T_aload_n (v := .ref 373) d_Mo_block_371 rfl (Or.inr ⟨_, rfl⟩) k) ?_
                    refine S_getfield d_Mo_block_372 fg_Mo_65 (w373 _) rfl ?_
                    refine ST.lift (fun _ _ k => T_iconst (v := nI 4) d_Mo_block_375 (by decide) k) ?_
                    refine ST.lift (fun _ _ k => T_dup2 d_Mo_block_376 rfl rfl k) ?_
                    refine S_laload d_Mo_block_377 a382 (vp_in_nI (by omega) (by omega)) (fun z198 => ?_)
                    refine ST.lift (fun _ _ k => T_lload d_Mo_block_378 rfl k) ?_
                    refine ST.lift (fun _ _ k => T_ladd d_Mo_block_380 k) (S_anyl fun z199 => ?_)
                    refine S_lastore d_Mo_block_381 (by decide) a382 (vp_in_nI (by omega) (by omega)) ?_
                    refine ST.lift (fun _ _ k => T_aload_n (v := .ref 373) d_Mo_block_382 rfl (Or.inr ⟨_, rfl⟩) k) ?_
                    refine S_getfield d_Mo_block_383 fg_Mo_65 (w373 _) rfl ?_
                    refine ST.lift (fun _ _ k => T_iconst (v := nI 0) d_Mo_block_386 (by decide) k) ?_
                    refine ST.lift (fun _ _ k => T_lload d_Mo_block_387 rfl k) ?_
                    refine ST.lift (fun _ _ k => T_lload d_Mo_block_389 rfl k) ?_
                    refine ST.lift (fun _ _ k => T_ladd d_Mo_block_391 k) (S_anyl fun z200 => ?_)
                    refine S_lastore d_Mo_block_392 (by decide) a382 (vp_in_nI (by omega) (by omega)) ?_
                    refine S_iincN (a := k80) (b := 1) (L' := [(2, .int (nI (k80 + 1))), (11, .int (nI 0)), (9, .long z190), (7, .long z175), (5, .long z157), (3, .long z156), (0, .ref 373), (1, .int (nI pos))]) d_Mo_block_393 (by decide) rfl rfl rfl ?_
                    refine ST.lift (fun _ _ k => T_goto (tgt := 193) d_Mo_block_396 rfl k) ?_
                    refine S_pick [0, 6, 7] rfl ?_
                    exact ih82 (80 - (k80 + 1)) (by omega) (k80 + 1)  rfl (by omega)
              exact lp83 _ 0  rfl (by omega)
            · refine ST.lift (fun _ _ k => T_aload_n (v := .ref 373) d_Mo_block_74 rfl (Or.inr ⟨_, rfl⟩) k) ?_
              refine S_getfield d_Mo_block_75 fg_Mo_58 (w373 _) rfl ?_
              refine ST.lift (fun _ _ k => T_iload_n d_Mo_block_78 rfl k) ?_
              refine ST.lift (fun _ _ k => T_iconst (v := nI 2) d_Mo_block_79 (by decide) k) ?_
              refine S_isubN d_Mo_block_80 (by omega) ?_
              refine S_laload d_Mo_block_81 a380 (vp_in_nI (by omega) (by omega)) (fun z201 => ?_)
              refine ST.lift (fun _ _ k => T_lstore_n (L' := [(3, .long z201), (2, .int (nI k48)), (0, .ref 373), (1, .int (nI pos))]) d_Mo_block_82 (by decide) rfl k) ?_
              refine ST.lift (fun _ _ k => T_aload_n (v := .ref 373) d_Mo_block_83 rfl (Or.inr ⟨_, rfl⟩) k) ?_
              refine S_getfield d_Mo_block_84 fg_Mo_58 (w373 _) rfl ?_
              refine ST.lift (fun _ _ k => T_iload_n d_Mo_block_87 rfl k) ?_
              refine ST.lift (fun _ _ k => T_bipush (v := nI 15) d_Mo_block_88 (by decide) k) ?_
              refine S_isubN d_Mo_block_90 (by omega) ?_
              refine S_laload d_Mo_block_91 a380 (vp_in_nI (by omega) (by omega)) (fun z202 => ?_)
              refine ST.lift (fun _ _ k => T_lstore (L' := [(5, .long z202), (3, .long z201), (2, .int (nI k48)), (0, .ref 373), (1, .int (nI pos))]) d_Mo_block_92 (by decide) rfl k) ?_
              refine ST.lift (fun _ _ k => T_aload_n (v := .ref 373) d_Mo_block_94 rfl (Or.inr ⟨_, rfl⟩) k) ?_
              refine S_getfield d_Mo_block_95 fg_Mo_58 (w373 _) rfl ?_
              refine ST.lift (fun _ _ k => T_iload_n d_Mo_block_98 rfl k) ?_
              refine ST.lift (fun _ _ k => T_lload_n d_Mo_block_99 rfl k) ?_
              refine ST.lift (fun _ _ k => T_bipush (v := nI 19) d_Mo_block_100 (by decide) k) ?_
              refine S_static (as := [.long z201, .int (nI 19)]) (rest := [.int (nI k48), .ref 380]) d_Mo_block_102 rfl (jw_Mo_turn.jo (by decide)) lm_Mo_61 jt_Mo_turn rfl (Nat.le_of_ble_eq_true rfl) (by decide) (by decide) (c_Mo_turn G v z201 (nI 19)) (fun r v' hq => ?_)
              obtain ⟨z203, hr, hv⟩ := hq
              rw [hr, hv]
              clear hr hv r v'
              show ST G mi_Mo_block 105 [(5, .long z202), (3, .long z201), (2, .int (nI k48)), (0, .ref 373), (1, .int (nI pos))] [.long z203, .int (nI k48), .ref 380] v 0 0 _
              refine ST.lift (fun _ _ k => T_lload_n d_Mo_block_105 rfl k) ?_
              refine ST.lift (fun _ _ k => T_bipush (v := nI 61) d_Mo_block_106 (by decide) k) ?_
              refine S_static (as := [.long z201, .int (nI 61)]) (rest := [.long z203, .int (nI k48), .ref 380]) d_Mo_block_108 rfl (jw_Mo_turn.jo (by decide)) lm_Mo_61 jt_Mo_turn rfl (Nat.le_of_ble_eq_true rfl) (by decide) (by decide) (c_Mo_turn G v z201 (nI 61)) (fun r v' hq => ?_)
              obtain ⟨z204, hr, hv⟩ := hq
              rw [hr, hv]
              clear hr hv r v'
              show ST G mi_Mo_block 111 [(5, .long z202), (3, .long z201), (2, .int (nI k48)), (0, .ref 373), (1, .int (nI pos))] [.long z204, .long z203, .int (nI k48), .ref 380] v 0 0 _
              refine ST.lift (fun _ _ k => T_lxor d_Mo_block_111 k) (S_anyl fun z205 => ?_)
              refine ST.lift (fun _ _ k => T_lload_n d_Mo_block_112 rfl k) ?_
              refine ST.lift (fun _ _ k => T_bipush (v := nI 6) d_Mo_block_113 (by decide) k) ?_
              refine ST.lift (fun _ _ k => T_lushr d_Mo_block_115 k) (S_anyl fun z206 => ?_)
              refine ST.lift (fun _ _ k => T_lxor d_Mo_block_116 k) (S_anyl fun z207 => ?_)
              refine ST.lift (fun _ _ k => T_aload_n (v := .ref 373) d_Mo_block_117 rfl (Or.inr ⟨_, rfl⟩) k) ?_
              refine S_getfield d_Mo_block_118 fg_Mo_58 (w373 _) rfl ?_
              refine ST.lift (fun _ _ k => T_iload_n d_Mo_block_121 rfl k) ?_
              refine ST.lift (fun _ _ k => T_bipush (v := nI 7) d_Mo_block_122 (by decide) k) ?_
              refine S_isubN d_Mo_block_124 (by omega) ?_
              refine S_laload d_Mo_block_125 a380 (vp_in_nI (by omega) (by omega)) (fun z208 => ?_)
              refine ST.lift (fun _ _ k => T_ladd d_Mo_block_126 k) (S_anyl fun z209 => ?_)
              refine ST.lift (fun _ _ k => T_lload d_Mo_block_127 rfl k) ?_
              refine ST.lift (fun _ _ k => T_iconst (v := nI 1) d_Mo_block_129 (by decide) k) ?_
              refine S_static (as := [.long z202, .int (nI 1)]) (rest := [.long z209, .int (nI k48), .ref 380]) d_Mo_block_130 rfl (jw_Mo_turn.jo (by decide)) lm_Mo_61 jt_Mo_turn rfl (Nat.le_of_ble_eq_true rfl) (by decide) (by decide) (c_Mo_turn G v z202 (nI 1)) (fun r v' hq => ?_)
              obtain ⟨z210, hr, hv⟩ := hq
              rw [hr, hv]
              clear hr hv r v'
              show ST G mi_Mo_block 133 [(5, .long z202), (3, .long z201), (2, .int (nI k48)), (0, .ref 373), (1, .int (nI pos))] [.long z210, .long z209, .int (nI k48), .ref 380] v 0 0 _
              refine ST.lift (fun _ _ k => T_lload d_Mo_block_133 rfl k) ?_
              refine ST.lift (fun _ _ k => T_bipush (v := nI 8) d_Mo_block_135 (by decide) k) ?_
              refine S_static (as := [.long z202, .int (nI 8)]) (rest := [.long z210, .long z209, .int (nI k48), .ref 380]) d_Mo_block_137 rfl (jw_Mo_turn.jo (by decide)) lm_Mo_61 jt_Mo_turn rfl (Nat.le_of_ble_eq_true rfl) (by decide) (by decide) (c_Mo_turn G v z202 (nI 8)) (fun r v' hq => ?_)
              obtain ⟨z211, hr, hv⟩ := hq
              rw [hr, hv]
              clear hr hv r v'
              show ST G mi_Mo_block 140 [(5, .long z202), (3, .long z201), (2, .int (nI k48)), (0, .ref 373), (1, .int (nI pos))] [.long z211, .long z210, .long z209, .int (nI k48), .ref 380] v 0 0 _
              refine ST.lift (fun _ _ k => T_lxor d_Mo_block_140 k) (S_anyl fun z212 => ?_)
              refine ST.lift (fun _ _ k => T_lload d_Mo_block_141 rfl k) ?_
              refine ST.lift (fun _ _ k => T_bipush (v := nI 7) d_Mo_block_143 (by decide) k) ?_
              refine ST.lift (fun _ _ k => T_lushr d_Mo_block_145 k) (S_anyl fun z213 => ?_)
              refine ST.lift (fun _ _ k => T_lxor d_Mo_block_146 k) (S_anyl fun z214 => ?_)
              refine ST.lift (fun _ _ k => T_ladd d_Mo_block_147 k) (S_anyl fun z215 => ?_)
              refine ST.lift (fun _ _ k => T_aload_n (v := .ref 373) d_Mo_block_148 rfl (Or.inr ⟨_, rfl⟩) k) ?_
              refine S_getfield d_Mo_block_149 fg_Mo_58 (w373 _) rfl ?_
              refine ST.lift (fun _ _ k => T_iload_n d_Mo_block_152 rfl k) ?_
              refine ST.lift (fun _ _ k => T_bipush (v := nI 16) d_Mo_block_153 (by decide) k) ?_
              refine S_isubN d_Mo_block_155 (by omega) ?_
              refine S_laload d_Mo_block_156 a380 (vp_in_nI (by omega) (by omega)) (fun z216 => ?_)
              refine ST.lift (fun _ _ k => T_ladd d_Mo_block_157 k) (S_anyl fun z217 => ?_)
              refine S_lastore d_Mo_block_158 (by decide) a380 (vp_in_nI (by omega) (by omega)) ?_
              refine S_iincN (a := k48) (b := 1) (L' := [(2, .int (nI (k48 + 1))), (5, .long z202), (3, .long z201), (0, .ref 373), (1, .int (nI pos))]) d_Mo_block_159 (by decide) rfl rfl rfl ?_
              refine ST.lift (fun _ _ k => T_goto (tgt := 68) d_Mo_block_162 rfl k) ?_
              refine S_pick [0, 3, 4] rfl ?_
              exact ih50 (80 - (k48 + 1)) (by omega) (k48 + 1)  rfl (by omega)
        exact lp51 _ 16  rfl (by omega)
      · refine ST.lift (fun _ _ k => T_aload_n (v := .ref 373) d_Mo_block_8 rfl (Or.inr ⟨_, rfl⟩) k) ?_
        refine S_getfield d_Mo_block_9 fg_Mo_58 (w373 _) rfl ?_
        refine ST.lift (fun _ _ k => T_iload_n d_Mo_block_12 rfl k) ?_
        refine ST.lift (fun _ _ k => T_lconst (v := 0) d_Mo_block_13 (by decide) k) ?_
        refine S_lastore d_Mo_block_14 (by decide) a380 (vp_in_nI (by omega) (by omega)) ?_
        refine ST.lift (fun _ _ k => T_iconst (v := nI 0) d_Mo_block_15 (by decide) k) ?_
        refine ST.lift (fun _ _ k => T_istore_n (L' := [(3, .int (nI 0)), (2, .int (nI k1)), (0, .ref 373), (1, .int (nI pos))]) d_Mo_block_16 (by decide) rfl k) ?_
        refine ST.lift (fun _ _ k => T_iload_n d_Mo_block_17 rfl k) ?_
        refine ST.lift (fun _ _ k => T_bipush (v := nI 8) d_Mo_block_18 (by decide) k) ?_
        refine S_icmp_geN d_Mo_block_20 rfl (by omega) (by omega) (fun c => by first | exact absurd c (by omega) | exact c.elim | exact absurd c (by decide) | exact absurd (by assumption) c | exact absurd c (by assumption)) (fun _ => ?_)
        refine ST.lift (fun _ _ k => T_aload_n (v := .ref 373) d_Mo_block_23 rfl (Or.inr ⟨_, rfl⟩) k) ?_
        refine S_getfield d_Mo_block_24 fg_Mo_58 (w373 _) rfl ?_
        refine ST.lift (fun _ _ k => T_iload_n d_Mo_block_27 rfl k) ?_
        refine ST.lift (fun _ _ k => T_aload_n (v := .ref 373) d_Mo_block_28 rfl (Or.inr ⟨_, rfl⟩) k) ?_
        refine S_getfield d_Mo_block_29 fg_Mo_58 (w373 _) rfl ?_
        refine ST.lift (fun _ _ k => T_iload_n d_Mo_block_32 rfl k) ?_
        refine S_laload d_Mo_block_33 a380 (vp_in_nI (by omega) (by omega)) (fun z218 => ?_)
        refine ST.lift (fun _ _ k => T_bipush (v := nI 8) d_Mo_block_34 (by decide) k) ?_
        refine ST.lift (fun _ _ k => T_lshl d_Mo_block_36 k) (S_anyl fun z219 => ?_)
        refine ST.lift (fun _ _ k => T_aload_n (v := .ref 373) d_Mo_block_37 rfl (Or.inr ⟨_, rfl⟩) k) ?_
        refine S_getfield d_Mo_block_38 fg_Mo_1 (w373 _) rfl ?_
        refine ST.lift (fun _ _ k => T_iload_n d_Mo_block_41 rfl k) ?_
        refine ST.lift (fun _ _ k => T_bipush (v := nI 8) d_Mo_block_42 (by decide) k) ?_
        refine ST.lift (fun _ _ k => T_iload_n d_Mo_block_44 rfl k) ?_
        refine S_imulN d_Mo_block_45 ?_
        refine S_iaddN d_Mo_block_46 ?_
        refine ST.lift (fun _ _ k => T_iload_n d_Mo_block_47 rfl k) ?_
        refine S_iaddN d_Mo_block_48 ?_
        refine S_iaload d_Mo_block_49 a374 (vp_in_nI (by omega) (by omega)) (fun z220 => ?_)
        refine ST.lift (fun _ _ k => T_i2l d_Mo_block_50 k) (S_anyl fun z221 => ?_)
        refine ST.lift (fun _ _ k => T_lor d_Mo_block_51 k) (S_anyl fun z222 => ?_)
        refine S_lastore d_Mo_block_52 (by decide) a380 (vp_in_nI (by omega) (by omega)) ?_
        refine S_iincN (a := 0) (b := 1) (L' := [(3, .int (nI 1)), (2, .int (nI k1)), (0, .ref 373), (1, .int (nI pos))]) d_Mo_block_53 (by decide) rfl rfl rfl ?_
        refine ST.lift (fun _ _ k => T_goto (tgt := 17) d_Mo_block_56 rfl k) ?_
        refine ST.lift (fun _ _ k => T_iload_n d_Mo_block_17 rfl k) ?_
        refine ST.lift (fun _ _ k => T_bipush (v := nI 8) d_Mo_block_18 (by decide) k) ?_
        refine S_icmp_geN d_Mo_block_20 rfl (by omega) (by omega) (fun c => by first | exact absurd c (by omega) | exact c.elim | exact absurd c (by decide) | exact absurd (by assumption) c | exact absurd c (by assumption)) (fun _ => ?_)
        refine ST.lift (fun _ _ k => T_aload_n (v := .ref 373) d_Mo_block_23 rfl (Or.inr ⟨_, rfl⟩) k) ?_
        refine S_getfield d_Mo_block_24 fg_Mo_58 (w373 _) rfl ?_
        refine ST.lift (fun _ _ k => T_iload_n d_Mo_block_27 rfl k) ?_
        refine ST.lift (fun _ _ k => T_aload_n (v := .ref 373) d_Mo_block_28 rfl (Or.inr ⟨_, rfl⟩) k) ?_
        refine S_getfield d_Mo_block_29 fg_Mo_58 (w373 _) rfl ?_
        refine ST.lift (fun _ _ k => T_iload_n d_Mo_block_32 rfl k) ?_
        refine S_laload d_Mo_block_33 a380 (vp_in_nI (by omega) (by omega)) (fun z223 => ?_)
        refine ST.lift (fun _ _ k => T_bipush (v := nI 8) d_Mo_block_34 (by decide) k) ?_
        refine ST.lift (fun _ _ k => T_lshl d_Mo_block_36 k) (S_anyl fun z224 => ?_)
        refine ST.lift (fun _ _ k => T_aload_n (v := .ref 373) d_Mo_block_37 rfl (Or.inr ⟨_, rfl⟩) k) ?_
        refine S_getfield d_Mo_block_38 fg_Mo_1 (w373 _) rfl ?_
        refine ST.lift (fun _ _ k => T_iload_n d_Mo_block_41 rfl k) ?_
        refine ST.lift (fun _ _ k => T_bipush (v := nI 8) d_Mo_block_42 (by decide) k) ?_
        refine ST.lift (fun _ _ k => T_iload_n d_Mo_block_44 rfl k) ?_
        refine S_imulN d_Mo_block_45 ?_
        refine S_iaddN d_Mo_block_46 ?_
        refine ST.lift (fun _ _ k => T_iload_n d_Mo_block_47 rfl k) ?_
        refine S_iaddN d_Mo_block_48 ?_
        refine S_iaload d_Mo_block_49 a374 (vp_in_nI (by omega) (by omega)) (fun z225 => ?_)
        refine ST.lift (fun _ _ k => T_i2l d_Mo_block_50 k) (S_anyl fun z226 => ?_)
        refine ST.lift (fun _ _ k => T_lor d_Mo_block_51 k) (S_anyl fun z227 => ?_)
        refine S_lastore d_Mo_block_52 (by decide) a380 (vp_in_nI (by omega) (by omega)) ?_
        refine S_iincN (a := 1) (b := 1) (L' := [(3, .int (nI 2)), (2, .int (nI k1)), (0, .ref 373), (1, .int (nI pos))]) d_Mo_block_53 (by decide) rfl rfl rfl ?_
        refine ST.lift (fun _ _ k => T_goto (tgt := 17) d_Mo_block_56 rfl k) ?_
        refine ST.lift (fun _ _ k => T_iload_n d_Mo_block_17 rfl k) ?_
        refine ST.lift (fun _ _ k => T_bipush (v := nI 8) d_Mo_block_18 (by decide) k) ?_
        refine S_icmp_geN d_Mo_block_20 rfl (by omega) (by omega) (fun c => by first | exact absurd c (by omega) | exact c.elim | exact absurd c (by decide) | exact absurd (by assumption) c | exact absurd c (by assumption)) (fun _ => ?_)
        refine ST.lift (fun _ _ k => T_aload_n (v := .ref 373) d_Mo_block_23 rfl (Or.inr ⟨_, rfl⟩) k) ?_
        refine S_getfield d_Mo_block_24 fg_Mo_58 (w373 _) rfl ?_
        refine ST.lift (fun _ _ k => T_iload_n d_Mo_block_27 rfl k) ?_
        refine ST.lift (fun _ _ k => T_aload_n (v := .ref 373) d_Mo_block_28 rfl (Or.inr ⟨_, rfl⟩) k) ?_
        refine S_getfield d_Mo_block_29 fg_Mo_58 (w373 _) rfl ?_
        refine ST.lift (fun _ _ k => T_iload_n d_Mo_block_32 rfl k) ?_
        refine S_laload d_Mo_block_33 a380 (vp_in_nI (by omega) (by omega)) (fun z228 => ?_)
        refine ST.lift (fun _ _ k => T_bipush (v := nI 8) d_Mo_block_34 (by decide) k) ?_
        refine ST.lift (fun _ _ k => T_lshl d_Mo_block_36 k) (S_anyl fun z229 => ?_)
        refine ST.lift (fun _ _ k => T_aload_n (v := .ref 373) d_Mo_block_37 rfl (Or.inr ⟨_, rfl⟩) k) ?_
        refine S_getfield d_Mo_block_38 fg_Mo_1 (w373 _) rfl ?_
        refine ST.lift (fun _ _ k => T_iload_n d_Mo_block_41 rfl k) ?_
        refine ST.lift (fun _ _ k => T_bipush (v := nI 8) d_Mo_block_42 (by decide) k) ?_
        refine ST.lift (fun _ _ k => T_iload_n d_Mo_block_44 rfl k) ?_
        refine S_imulN d_Mo_block_45 ?_
        refine S_iaddN d_Mo_block_46 ?_
        refine ST.lift (fun _ _ k => T_iload_n d_Mo_block_47 rfl k) ?_
        refine S_iaddN d_Mo_block_48 ?_
        refine S_iaload d_Mo_block_49 a374 (vp_in_nI (by omega) (by omega)) (fun z230 => ?_)
        refine ST.lift (fun _ _ k => T_i2l d_Mo_block_50 k) (S_anyl fun z231 => ?_)
        refine ST.lift (fun _ _ k => T_lor d_Mo_block_51 k) (S_anyl fun z232 => ?_)
        refine S_lastore d_Mo_block_52 (by decide) a380 (vp_in_nI (by omega) (by omega)) ?_
        refine S_iincN (a := 2) (b := 1) (L' := [(3, .int (nI 3)), (2, .int (nI k1)), (0, .ref 373), (1, .int (nI pos))]) d_Mo_block_53 (by decide) rfl rfl rfl ?_
        refine ST.lift (fun _ _ k => T_goto (tgt := 17) d_Mo_block_56 rfl k) ?_
        refine ST.lift (fun _ _ k => T_iload_n d_Mo_block_17 rfl k) ?_
        refine ST.lift (fun _ _ k => T_bipush (v := nI 8) d_Mo_block_18 (by decide) k) ?_
        refine S_icmp_geN d_Mo_block_20 rfl (by omega) (by omega) (fun c => by first | exact absurd c (by omega) | exact c.elim | exact absurd c (by decide) | exact absurd (by assumption) c | exact absurd c (by assumption)) (fun _ => ?_)
        refine ST.lift (fun _ _ k => T_aload_n (v := .ref 373) d_Mo_block_23 rfl (Or.inr ⟨_, rfl⟩) k) ?_
        refine S_getfield d_Mo_block_24 fg_Mo_58 (w373 _) rfl ?_
        refine ST.lift (fun _ _ k => T_iload_n d_Mo_block_27 rfl k) ?_
        refine ST.lift (fun _ _ k => T_aload_n (v := .ref 373) d_Mo_block_28 rfl (Or.inr ⟨_, rfl⟩) k) ?_
        refine S_getfield d_Mo_block_29 fg_Mo_58 (w373 _) rfl ?_
        refine ST.lift (fun _ _ k => T_iload_n d_Mo_block_32 rfl k) ?_
        refine S_laload d_Mo_block_33 a380 (vp_in_nI (by omega) (by omega)) (fun z233 => ?_)
        refine ST.lift (fun _ _ k => T_bipush (v := nI 8) d_Mo_block_34 (by decide) k) ?_
        refine ST.lift (fun _ _ k => T_lshl d_Mo_block_36 k) (S_anyl fun z234 => ?_)
        refine ST.lift (fun _ _ k => T_aload_n (v := .ref 373) d_Mo_block_37 rfl (Or.inr ⟨_, rfl⟩) k) ?_
        refine S_getfield d_Mo_block_38 fg_Mo_1 (w373 _) rfl ?_
        refine ST.lift (fun _ _ k => T_iload_n d_Mo_block_41 rfl k) ?_
        refine ST.lift (fun _ _ k => T_bipush (v := nI 8) d_Mo_block_42 (by decide) k) ?_
        refine ST.lift (fun _ _ k => T_iload_n d_Mo_block_44 rfl k) ?_
        refine S_imulN d_Mo_block_45 ?_
        refine S_iaddN d_Mo_block_46 ?_
        refine ST.lift (fun _ _ k => T_iload_n d_Mo_block_47 rfl k) ?_
        refine S_iaddN d_Mo_block_48 ?_
        refine S_iaload d_Mo_block_49 a374 (vp_in_nI (by omega) (by omega)) (fun z235 => ?_)
        refine ST.lift (fun _ _ k => T_i2l d_Mo_block_50 k) (S_anyl fun z236 => ?_)
        refine ST.lift (fun _ _ k => T_lor d_Mo_block_51 k) (S_anyl fun z237 => ?_)
        refine S_lastore d_Mo_block_52 (by decide) a380 (vp_in_nI (by omega) (by omega)) ?_
        refine S_iincN (a := 3) (b := 1) (L' := [(3, .int (nI 4)), (2, .int (nI k1)), (0, .ref 373), (1, .int (nI pos))]) d_Mo_block_53 (by decide) rfl rfl rfl ?_
        refine ST.lift (fun _ _ k => T_goto (tgt := 17) d_Mo_block_56 rfl k) ?_
        refine ST.lift (fun _ _ k => T_iload_n d_Mo_block_17 rfl k) ?_
        refine ST.lift (fun _ _ k => T_bipush (v := nI 8) d_Mo_block_18 (by decide) k) ?_
        refine S_icmp_geN d_Mo_block_20 rfl (by omega) (by omega) (fun c => by first | exact absurd c (by omega) | exact c.elim | exact absurd c (by decide) | exact absurd (by assumption) c | exact absurd c (by assumption)) (fun _ => ?_)
        refine ST.lift (fun _ _ k => T_aload_n (v := .ref 373) d_Mo_block_23 rfl (Or.inr ⟨_, rfl⟩) k) ?_
        refine S_getfield d_Mo_block_24 fg_Mo_58 (w373 _) rfl ?_
        refine ST.lift (fun _ _ k => T_iload_n d_Mo_block_27 rfl k) ?_
        refine ST.lift (fun _ _ k => T_aload_n (v := .ref 373) d_Mo_block_28 rfl (Or.inr ⟨_, rfl⟩) k) ?_
        refine S_getfield d_Mo_block_29 fg_Mo_58 (w373 _) rfl ?_
        refine ST.lift (fun _ _ k => T_iload_n d_Mo_block_32 rfl k) ?_
        refine S_laload d_Mo_block_33 a380 (vp_in_nI (by omega) (by omega)) (fun z238 => ?_)
        refine ST.lift (fun _ _ k => T_bipush (v := nI 8) d_Mo_block_34 (by decide) k) ?_
        refine ST.lift (fun _ _ k => T_lshl d_Mo_block_36 k) (S_anyl fun z239 => ?_)
        refine ST.lift (fun _ _ k => T_aload_n (v := .ref 373) d_Mo_block_37 rfl (Or.inr ⟨_, rfl⟩) k) ?_
        refine S_getfield d_Mo_block_38 fg_Mo_1 (w373 _) rfl ?_
        refine ST.lift (fun _ _ k => T_iload_n d_Mo_block_41 rfl k) ?_
        refine ST.lift (fun _ _ k => T_bipush (v := nI 8) d_Mo_block_42 (by decide) k) ?_
        refine ST.lift (fun _ _ k => T_iload_n d_Mo_block_44 rfl k) ?_
        refine S_imulN d_Mo_block_45 ?_
        refine S_iaddN d_Mo_block_46 ?_
        refine ST.lift (fun _ _ k => T_iload_n d_Mo_block_47 rfl k) ?_
        refine S_iaddN d_Mo_block_48 ?_
        refine S_iaload d_Mo_block_49 a374 (vp_in_nI (by omega) (by omega)) (fun z240 => ?_)
        refine ST.lift (fun _ _ k => T_i2l d_Mo_block_50 k) (S_anyl fun z241 => ?_)
        refine ST.lift (fun _ _ k => T_lor d_Mo_block_51 k) (S_anyl fun z242 => ?_)
        refine S_lastore d_Mo_block_52 (by decide) a380 (vp_in_nI (by omega) (by omega)) ?_
        refine S_iincN (a := 4) (b := 1) (L' := [(3, .int (nI 5)), (2, .int (nI k1)), (0, .ref 373), (1, .int (nI pos))]) d_Mo_block_53 (by decide) rfl rfl rfl ?_
        refine ST.lift (fun _ _ k => T_goto (tgt := 17) d_Mo_block_56 rfl k) ?_
        refine ST.lift (fun _ _ k => T_iload_n d_Mo_block_17 rfl k) ?_
        refine ST.lift (fun _ _ k => T_bipush (v := nI 8) d_Mo_block_18 (by decide) k) ?_
        refine S_icmp_geN d_Mo_block_20 rfl (by omega) (by omega) (fun c => by first | exact absurd c (by omega) | exact c.elim | exact absurd c (by decide) | exact absurd (by assumption) c | exact absurd c (by assumption)) (fun _ => ?_)
        refine ST.lift (fun _ _ k => T_aload_n (v := .ref 373) d_Mo_block_23 rfl (Or.inr ⟨_, rfl⟩) k) ?_
        refine S_getfield d_Mo_block_24 fg_Mo_58 (w373 _) rfl ?_
        refine ST.lift (fun _ _ k => T_iload_n d_Mo_block_27 rfl k) ?_
        refine ST.lift (fun _ _ k => T_aload_n (v := .ref 373) d_Mo_block_28 rfl (Or.inr ⟨_, rfl⟩) k) ?_
        refine S_getfield d_Mo_block_29 fg_Mo_58 (w373 _) rfl ?_
        refine ST.lift (fun _ _ k => T_iload_n d_Mo_block_32 rfl k) ?_
        refine S_laload d_Mo_block_33 a380 (vp_in_nI (by omega) (by omega)) (fun z243 => ?_)
        refine ST.lift (fun _ _ k => T_bipush (v := nI 8) d_Mo_block_34 (by decide) k) ?_
        refine ST.lift (fun _ _ k => T_lshl d_Mo_block_36 k) (S_anyl fun z244 => ?_)
        refine ST.lift (fun _ _ k => T_aload_n (v := .ref 373) d_Mo_block_37 rfl (Or.inr ⟨_, rfl⟩) k) ?_
        refine S_getfield d_Mo_block_38 fg_Mo_1 (w373 _) rfl ?_
        refine ST.lift (fun _ _ k => T_iload_n d_Mo_block_41 rfl k) ?_
        refine ST.lift (fun _ _ k => T_bipush (v := nI 8) d_Mo_block_42 (by decide) k) ?_
        refine ST.lift (fun _ _ k => T_iload_n d_Mo_block_44 rfl k) ?_
        refine S_imulN d_Mo_block_45 ?_
        refine S_iaddN d_Mo_block_46 ?_
        refine ST.lift (fun _ _ k => T_iload_n d_Mo_block_47 rfl k) ?_
        refine S_iaddN d_Mo_block_48 ?_
        refine S_iaload d_Mo_block_49 a374 (vp_in_nI (by omega) (by omega)) (fun z245 => ?_)
        refine ST.lift (fun _ _ k => T_i2l d_Mo_block_50 k) (S_anyl fun z246 => ?_)
        refine ST.lift (fun _ _ k => T_lor d_Mo_block_51 k) (S_anyl fun z247 => ?_)
        refine S_lastore d_Mo_block_52 (by decide) a380 (vp_in_nI (by omega) (by omega)) ?_
        refine S_iincN (a := 5) (b := 1) (L' := [(3, .int (nI 6)), (2, .int (nI k1)), (0, .ref 373), (1, .int (nI pos))]) d_Mo_block_53 (by decide) rfl rfl rfl ?_
        refine ST.lift (fun _ _ k => T_goto (tgt := 17) d_Mo_block_56 rfl k) ?_
        refine ST.lift (fun _ _ k => T_iload_n d_Mo_block_17 rfl k) ?_
        refine ST.lift (fun _ _ k => T_bipush (v := nI 8) d_Mo_block_18 (by decide) k) ?_
        refine S_icmp_geN d_Mo_block_20 rfl (by omega) (by omega) (fun c => by first | exact absurd c (by omega) | exact c.elim | exact absurd c (by decide) | exact absurd (by assumption) c | exact absurd c (by assumption)) (fun _ => ?_)
        refine ST.lift (fun _ _ k => T_aload_n (v := .ref 373) d_Mo_block_23 rfl (Or.inr ⟨_, rfl⟩) k) ?_
        refine S_getfield d_Mo_block_24 fg_Mo_58 (w373 _) rfl ?_
        refine ST.lift (fun _ _ k => T_iload_n d_Mo_block_27 rfl k) ?_
        refine ST.lift (fun _ _ k => T_aload_n (v := .ref 373) d_Mo_block_28 rfl (Or.inr ⟨_, rfl⟩) k) ?_
        refine S_getfield d_Mo_block_29 fg_Mo_58 (w373 _) rfl ?_
        refine ST.lift (fun _ _ k => T_iload_n d_Mo_block_32 rfl k) ?_
        refine S_laload d_Mo_block_33 a380 (vp_in_nI (by omega) (by omega)) (fun z248 => ?_)
        refine ST.lift (fun _ _ k => T_bipush (v := nI 8) d_Mo_block_34 (by decide) k) ?_
        refine ST.lift (fun _ _ k => T_lshl d_Mo_block_36 k) (S_anyl fun z249 => ?_)
        refine ST.lift (fun _ _ k => T_aload_n (v := .ref 373) d_Mo_block_37 rfl (Or.inr ⟨_, rfl⟩) k) ?_
        refine S_getfield d_Mo_block_38 fg_Mo_1 (w373 _) rfl ?_
        refine ST.lift (fun _ _ k => T_iload_n d_Mo_block_41 rfl k) ?_
        refine ST.lift (fun _ _ k => T_bipush (v := nI 8) d_Mo_block_42 (by decide) k) ?_
        refine ST.lift (fun _ _ k => T_iload_n d_Mo_block_44 rfl k) ?_
        refine S_imulN d_Mo_block_45 ?_
        refine S_iaddN d_Mo_block_46 ?_
        refine ST.lift (fun _ _ k => T_iload_n d_Mo_block_47 rfl k) ?_
        refine S_iaddN d_Mo_block_48 ?_
        refine S_iaload d_Mo_block_49 a374 (vp_in_nI (by omega) (by omega)) (fun z250 => ?_)
        refine ST.lift (fun _ _ k => T_i2l d_Mo_block_50 k) (S_anyl fun z251 => ?_)
        refine ST.lift (fun _ _ k => T_lor d_Mo_block_51 k) (S_anyl fun z252 => ?_)
        refine S_lastore d_Mo_block_52 (by decide) a380 (vp_in_nI (by omega) (by omega)) ?_
        refine S_iincN (a := 6) (b := 1) (L' := [(3, .int (nI 7)), (2, .int (nI k1)), (0, .ref 373), (1, .int (nI pos))]) d_Mo_block_53 (by decide) rfl rfl rfl ?_
        refine ST.lift (fun _ _ k => T_goto (tgt := 17) d_Mo_block_56 rfl k) ?_
        refine ST.lift (fun _ _ k => T_iload_n d_Mo_block_17 rfl k) ?_
        refine ST.lift (fun _ _ k => T_bipush (v := nI 8) d_Mo_block_18 (by decide) k) ?_
        refine S_icmp_geN d_Mo_block_20 rfl (by omega) (by omega) (fun c => by first | exact absurd c (by omega) | exact c.elim | exact absurd c (by decide) | exact absurd (by assumption) c | exact absurd c (by assumption)) (fun _ => ?_)
        refine ST.lift (fun _ _ k => T_aload_n (v := .ref 373) d_Mo_block_23 rfl (Or.inr ⟨_, rfl⟩) k) ?_
        refine S_getfield d_Mo_block_24 fg_Mo_58 (w373 _) rfl ?_
        refine ST.lift (fun _ _ k => T_iload_n d_Mo_block_27 rfl k) ?_
        refine ST.lift (fun _ _ k => T_aload_n (v := .ref 373) d_Mo_block_28 rfl (Or.inr ⟨_, rfl⟩) k) ?_
        refine S_getfield d_Mo_block_29 fg_Mo_58 (w373 _) rfl ?_
        refine ST.lift (fun _ _ k => T_iload_n d_Mo_block_32 rfl k) ?_
        refine S_laload d_Mo_block_33 a380 (vp_in_nI (by omega) (by omega)) (fun z253 => ?_)
        refine ST.lift (fun _ _ k => T_bipush (v := nI 8) d_Mo_block_34 (by decide) k) ?_
        refine ST.lift (fun _ _ k => T_lshl d_Mo_block_36 k) (S_anyl fun z254 => ?_)
        refine ST.lift (fun _ _ k => T_aload_n (v := .ref 373) d_Mo_block_37 rfl (Or.inr ⟨_, rfl⟩) k) ?_
        refine S_getfield d_Mo_block_38 fg_Mo_1 (w373 _) rfl ?_
        refine ST.lift (fun _ _ k => T_iload_n d_Mo_block_41 rfl k) ?_
        refine ST.lift (fun _ _ k => T_bipush (v := nI 8) d_Mo_block_42 (by decide) k) ?_
        refine ST.lift (fun _ _ k => T_iload_n d_Mo_block_44 rfl k) ?_
        refine S_imulN d_Mo_block_45 ?_
        refine S_iaddN d_Mo_block_46 ?_
        refine ST.lift (fun _ _ k => T_iload_n d_Mo_block_47 rfl k) ?_
        refine S_iaddN d_Mo_block_48 ?_
        refine S_iaload d_Mo_block_49 a374 (vp_in_nI (by omega) (by omega)) (fun z255 => ?_)
        refine ST.lift (fun _ _ k => T_i2l d_Mo_block_50 k) (S_anyl fun z256 => ?_)
        refine ST.lift (fun _ _ k => T_lor d_Mo_block_51 k) (S_anyl fun z257 => ?_)
        refine S_lastore d_Mo_block_52 (by decide) a380 (vp_in_nI (by omega) (by omega)) ?_
        refine S_iincN (a := 7) (b := 1) (L' := [(3, .int (nI 8)), (2, .int (nI k1)), (0, .ref 373), (1, .int (nI pos))]) d_Mo_block_53 (by decide) rfl rfl rfl ?_
        refine ST.lift (fun _ _ k => T_goto (tgt := 17) d_Mo_block_56 rfl k) ?_
        refine ST.lift (fun _ _ k => T_iload_n d_Mo_block_17 rfl k) ?_
        refine ST.lift (fun _ _ k => T_bipush (v := nI 8) d_Mo_block_18 (by decide) k) ?_
        refine S_icmp_geN d_Mo_block_20 rfl (by omega) (by omega) (fun _ => ?_) (fun c => by first | exact absurd c (by omega) | exact c.elim | exact absurd c (by decide) | exact absurd (by assumption) c | exact absurd c (by assumption))
        refine S_iincN (a := k1) (b := 1) (L' := [(2, .int (nI (k1 + 1))), (3, .int (nI 8)), (0, .ref 373), (1, .int (nI pos))]) d_Mo_block_59 (by decide) rfl rfl rfl ?_
        refine ST.lift (fun _ _ k => T_goto (tgt := 2) d_Mo_block_62 rfl k) ?_
        refine S_pick [0, 2, 3] rfl ?_
        exact ih3 (16 - (k1 + 1)) (by omega) (k1 + 1)  rfl (by omega)
  exact lp4 _ 0  rfl (by omega)
set_option maxRecDepth 100000 in
set_option maxHeartbeats 4000000 in
theorem c_Mo_set (G : GX) (v : Nat → Int32) (d : Nat) (b_d : d ≤ 63) (a : Nat) (b_a : a ≤ 63) : CS G mi_Mo_set [.ref 373, .int (nI d), .int (nI a)] v (fun r v' => r = none ∧ v' = v) := by
  refine CS.of (by decide) (Nat.le_of_ble_eq_true rfl) ?_
  generalize hQe : (fun (r : Option Value) (v' : Nat → Int32) => r = none ∧ v' = v) = Q
  have hQ : Q none v := by rw [← hQe]; exact ⟨rfl, rfl⟩
  clear hQe
  show ST G mi_Mo_set 0 [(0, .ref 373), (1, .int (nI d)), (2, .int (nI a))] [] v 0 0 Q
  refine ST.lift (fun _ _ k => T_iconst (v := nI 0) d_Mo_set_0 (by decide) k) ?_
  refine ST.lift (fun _ _ k => T_istore_n (L' := [(3, .int (nI 0)), (0, .ref 373), (1, .int (nI d)), (2, .int (nI a))]) d_Mo_set_1 (by decide) rfl k) ?_
  have lp4 : ∀ (n2 k1 : Nat), 16 - k1 = n2 → 0 ≤ k1 ∧ k1 ≤ 0 + 16 → ST G mi_Mo_set 2 [(3, .int (nI k1)), (0, .ref 373), (1, .int (nI d)), (2, .int (nI a))] [] v 0 0 Q := by
    intro n2
    induction n2 using Nat.strongRecOn with
    | _ n2 ih3 =>
      intro k1 h5 h6
      refine ST.lift (fun _ _ k => T_iload_n d_Mo_set_2 rfl k) ?_
      refine ST.lift (fun _ _ k => T_bipush (v := nI 16) d_Mo_set_3 (by decide) k) ?_
      refine S_icmp_geN d_Mo_set_5 rfl (by omega) (by omega) (fun c7 => ?_) (fun c7 => ?_)
      · exact S_vret d_Mo_set_36 rfl (by decide) (by decide) hQ
      · refine ST.lift (fun _ _ k => T_aload_n (v := .ref 373) d_Mo_set_8 rfl (Or.inr ⟨_, rfl⟩) k) ?_
        refine S_getfield d_Mo_set_9 fg_Mo_124 (w373 _) rfl ?_
        refine ST.lift (fun _ _ k => T_bipush (v := nI 16) d_Mo_set_12 (by decide) k) ?_
        refine ST.lift (fun _ _ k => T_iload_n d_Mo_set_14 rfl k) ?_
        refine S_imulN d_Mo_set_15 ?_
        refine ST.lift (fun _ _ k => T_iload_n d_Mo_set_16 rfl k) ?_
        refine S_iaddN d_Mo_set_17 ?_
        refine ST.lift (fun _ _ k => T_aload_n (v := .ref 373) d_Mo_set_18 rfl (Or.inr ⟨_, rfl⟩) k) ?_
        refine S_getfield d_Mo_set_19 fg_Mo_124 (w373 _) rfl ?_
        refine ST.lift (fun _ _ k => T_bipush (v := nI 16) d_Mo_set_22 (by decide) k) ?_
        refine ST.lift (fun _ _ k => T_iload_n d_Mo_set_24 rfl k) ?_
        refine S_imulN d_Mo_set_25 ?_
        refine ST.lift (fun _ _ k => T_iload_n d_Mo_set_26 rfl k) ?_
        refine S_iaddN d_Mo_set_27 ?_
        refine S_laload d_Mo_set_28 a390 (vp_in_nI (by omega) (by omega)) (fun z8 => ?_)
        refine S_lastore d_Mo_set_29 (by decide) a390 (vp_in_nI (by omega) (by omega)) ?_
        refine S_iincN (a := k1) (b := 1) (L' := [(3, .int (nI (k1 + 1))), (0, .ref 373), (1, .int (nI d)), (2, .int (nI a))]) d_Mo_set_30 (by decide) rfl rfl rfl ?_
        refine ST.lift (fun _ _ k => T_goto (tgt := 2) d_Mo_set_33 rfl k) ?_
        exact ih3 (16 - (k1 + 1)) (by omega) (k1 + 1)  rfl (by omega)
  exact lp4 _ 0  rfl (by omega)
set_option maxRecDepth 100000 in
set_option maxHeartbeats 4000000 in
theorem c_Mo_small (G : GX) (v : Nat → Int32) (d : Nat) (b_d : d ≤ 63) (x : Int32) : CS G mi_Mo_small [.ref 373, .int (nI d), .int x] v (fun r v' => r = none ∧ v' = v) := by
  refine CS.of (by decide) (Nat.le_of_ble_eq_true rfl) ?_
  generalize hQe : (fun (r : Option Value) (v' : Nat → Int32) => r = none ∧ v' = v) = Q
  have hQ : Q none v := by rw [← hQe]; exact ⟨rfl, rfl⟩
  clear hQe
  show ST G mi_Mo_small 0 [(0, .ref 373), (1, .int (nI d)), (2, .int x)] [] v 0 0 Q
  refine ST.lift (fun _ _ k => T_iconst (v := nI 0) d_Mo_small_0 (by decide) k) ?_
  refine ST.lift (fun _ _ k => T_istore_n (L' := [(3, .int (nI 0)), (0, .ref 373), (1, .int (nI d)), (2, .int x)]) d_Mo_small_1 (by decide) rfl k) ?_
  refine ST.lift (fun _ _ k => T_iload_n d_Mo_small_2 rfl k) ?_
  refine ST.lift (fun _ _ k => T_bipush (v := nI 16) d_Mo_small_3 (by decide) k) ?_
  refine S_icmp_geN d_Mo_small_5 rfl (by omega) (by omega) (fun c => by first | exact absurd c (by omega) | exact c.elim | exact absurd c (by decide) | exact absurd (by assumption) c | exact absurd c (by assumption)) (fun _ => ?_)
  refine ST.lift (fun _ _ k => T_aload_n (v := .ref 373) d_Mo_small_8 rfl (Or.inr ⟨_, rfl⟩) k) ?_
  refine S_getfield d_Mo_small_9 fg_Mo_124 (w373 _) rfl ?_
  refine ST.lift (fun _ _ k => T_bipush (v := nI 16) d_Mo_small_12 (by decide) k) ?_
  refine ST.lift (fun _ _ k => T_iload_n d_Mo_small_14 rfl k) ?_
  refine S_imulN d_Mo_small_15 ?_
  refine ST.lift (fun _ _ k => T_iload_n d_Mo_small_16 rfl k) ?_
  refine S_iaddN d_Mo_small_17 ?_
  refine ST.lift (fun _ _ k => T_lconst (v := 0) d_Mo_small_18 (by decide) k) ?_
  refine S_lastore d_Mo_small_19 (by decide) a390 (vp_in_nI (by omega) (by omega)) ?_
  refine S_iincN (a := 0) (b := 1) (L' := [(3, .int (nI 1)), (0, .ref 373), (1, .int (nI d)), (2, .int x)]) d_Mo_small_20 (by decide) rfl rfl rfl ?_
  refine ST.lift (fun _ _ k => T_goto (tgt := 2) d_Mo_small_23 rfl k) ?_
  refine ST.lift (fun _ _ k => T_iload_n d_Mo_small_2 rfl k) ?_
  refine ST.lift (fun _ _ k => T_bipush (v := nI 16) d_Mo_small_3 (by decide) k) ?_
  refine S_icmp_geN d_Mo_small_5 rfl (by omega) (by omega) (fun c => by first | exact absurd c (by omega) | exact c.elim | exact absurd c (by decide) | exact absurd (by assumption) c | exact absurd c (by assumption)) (fun _ => ?_)
  refine ST.lift (fun _ _ k => T_aload_n (v := .ref 373) d_Mo_small_8 rfl (Or.inr ⟨_, rfl⟩) k) ?_
  refine S_getfield d_Mo_small_9 fg_Mo_124 (w373 _) rfl ?_
  refine ST.lift (fun _ _ k => T_bipush (v := nI 16) d_Mo_small_12 (by decide) k) ?_
  refine ST.lift (fun _ _ k => T_iload_n d_Mo_small_14 rfl k) ?_
  refine S_imulN d_Mo_small_15 ?_
  refine ST.lift (fun _ _ k => T_iload_n d_Mo_small_16 rfl k) ?_
  refine S_iaddN d_Mo_small_17 ?_
  refine ST.lift (fun _ _ k => T_lconst (v := 0) d_Mo_small_18 (by decide) k) ?_
  refine S_lastore d_Mo_small_19 (by decide) a390 (vp_in_nI (by omega) (by omega)) ?_
  refine S_iincN (a := 1) (b := 1) (L' := [(3, .int (nI 2)), (0, .ref 373), (1, .int (nI d)), (2, .int x)]) d_Mo_small_20 (by decide) rfl rfl rfl ?_
  refine ST.lift (fun _ _ k => T_goto (tgt := 2) d_Mo_small_23 rfl k) ?_
  refine ST.lift (fun _ _ k => T_iload_n d_Mo_small_2 rfl k) ?_
  refine ST.lift (fun _ _ k => T_bipush (v := nI 16) d_Mo_small_3 (by decide) k) ?_
  refine S_icmp_geN d_Mo_small_5 rfl (by omega) (by omega) (fun c => by first | exact absurd c (by omega) | exact c.elim | exact absurd c (by decide) | exact absurd (by assumption) c | exact absurd c (by assumption)) (fun _ => ?_)
  refine ST.lift (fun _ _ k => T_aload_n (v := .ref 373) d_Mo_small_8 rfl (Or.inr ⟨_, rfl⟩) k) ?_
  refine S_getfield d_Mo_small_9 fg_Mo_124 (w373 _) rfl ?_
  refine ST.lift (fun _ _ k => T_bipush (v := nI 16) d_Mo_small_12 (by decide) k) ?_
  refine ST.lift (fun _ _ k => T_iload_n d_Mo_small_14 rfl k) ?_
  refine S_imulN d_Mo_small_15 ?_
  refine ST.lift (fun _ _ k => T_iload_n d_Mo_small_16 rfl k) ?_
  refine S_iaddN d_Mo_small_17 ?_
  refine ST.lift (fun _ _ k => T_lconst (v := 0) d_Mo_small_18 (by decide) k) ?_
  refine S_lastore d_Mo_small_19 (by decide) a390 (vp_in_nI (by omega) (by omega)) ?_
  refine S_iincN (a := 2) (b := 1) (L' := [(3, .int (nI 3)), (0, .ref 373), (1, .int (nI d)), (2, .int x)]) d_Mo_small_20 (by decide) rfl rfl rfl ?_
  refine ST.lift (fun _ _ k => T_goto (tgt := 2) d_Mo_small_23 rfl k) ?_
  refine ST.lift (fun _ _ k => T_iload_n d_Mo_small_2 rfl k) ?_
  refine ST.lift (fun _ _ k => T_bipush (v := nI 16) d_Mo_small_3 (by decide) k) ?_
  refine S_icmp_geN d_Mo_small_5 rfl (by omega) (by omega) (fun c => by first | exact absurd c (by omega) | exact c.elim | exact absurd c (by decide) | exact absurd (by assumption) c | exact absurd c (by assumption)) (fun _ => ?_)
  refine ST.lift (fun _ _ k => T_aload_n (v := .ref 373) d_Mo_small_8 rfl (Or.inr ⟨_, rfl⟩) k) ?_
  refine S_getfield d_Mo_small_9 fg_Mo_124 (w373 _) rfl ?_
  refine ST.lift (fun _ _ k => T_bipush (v := nI 16) d_Mo_small_12 (by decide) k) ?_
  refine ST.lift (fun _ _ k => T_iload_n d_Mo_small_14 rfl k) ?_
  refine S_imulN d_Mo_small_15 ?_
  refine ST.lift (fun _ _ k => T_iload_n d_Mo_small_16 rfl k) ?_
  refine S_iaddN d_Mo_small_17 ?_
  refine ST.lift (fun _ _ k => T_lconst (v := 0) d_Mo_small_18 (by decide) k) ?_
  refine S_lastore d_Mo_small_19 (by decide) a390 (vp_in_nI (by omega) (by omega)) ?_
  refine S_iincN (a := 3) (b := 1) (L' := [(3, .int (nI 4)), (0, .ref 373), (1, .int (nI d)), (2, .int x)]) d_Mo_small_20 (by decide) rfl rfl rfl ?_
  refine ST.lift (fun _ _ k => T_goto (tgt := 2) d_Mo_small_23 rfl k) ?_
  refine ST.lift (fun _ _ k => T_iload_n d_Mo_small_2 rfl k) ?_
  refine ST.lift (fun _ _ k => T_bipush (v := nI 16) d_Mo_small_3 (by decide) k) ?_
  refine S_icmp_geN d_Mo_small_5 rfl (by omega) (by omega) (fun c => by first | exact absurd c (by omega) | exact c.elim | exact absurd c (by decide) | exact absurd (by assumption) c | exact absurd c (by assumption)) (fun _ => ?_)
  refine ST.lift (fun _ _ k => T_aload_n (v := .ref 373) d_Mo_small_8 rfl (Or.inr ⟨_, rfl⟩) k) ?_
  refine S_getfield d_Mo_small_9 fg_Mo_124 (w373 _) rfl ?_
  refine ST.lift (fun _ _ k => T_bipush (v := nI 16) d_Mo_small_12 (by decide) k) ?_
  refine ST.lift (fun _ _ k => T_iload_n d_Mo_small_14 rfl k) ?_
  refine S_imulN d_Mo_small_15 ?_
  refine ST.lift (fun _ _ k => T_iload_n d_Mo_small_16 rfl k) ?_
  refine S_iaddN d_Mo_small_17 ?_
  refine ST.lift (fun _ _ k => T_lconst (v := 0) d_Mo_small_18 (by decide) k) ?_
  refine S_lastore d_Mo_small_19 (by decide) a390 (vp_in_nI (by omega) (by omega)) ?_
  refine S_iincN (a := 4) (b := 1) (L' := [(3, .int (nI 5)), (0, .ref 373), (1, .int (nI d)), (2, .int x)]) d_Mo_small_20 (by decide) rfl rfl rfl ?_
  refine ST.lift (fun _ _ k => T_goto (tgt := 2) d_Mo_small_23 rfl k) ?_
  refine ST.lift (fun _ _ k => T_iload_n d_Mo_small_2 rfl k) ?_
  refine ST.lift (fun _ _ k => T_bipush (v := nI 16) d_Mo_small_3 (by decide) k) ?_
  refine S_icmp_geN d_Mo_small_5 rfl (by omega) (by omega) (fun c => by first | exact absurd c (by omega) | exact c.elim | exact absurd c (by decide) | exact absurd (by assumption) c | exact absurd c (by assumption)) (fun _ => ?_)
  refine ST.lift (fun _ _ k => T_aload_n (v := .ref 373) d_Mo_small_8 rfl (Or.inr ⟨_, rfl⟩) k) ?_
  refine S_getfield d_Mo_small_9 fg_Mo_124 (w373 _) rfl ?_
  refine ST.lift (fun _ _ k => T_bipush (v := nI 16) d_Mo_small_12 (by decide) k) ?_
  refine ST.lift (fun _ _ k => T_iload_n d_Mo_small_14 rfl k) ?_
  refine S_imulN d_Mo_small_15 ?_
  refine ST.lift (fun _ _ k => T_iload_n d_Mo_small_16 rfl k) ?_
  refine S_iaddN d_Mo_small_17 ?_
  refine ST.lift (fun _ _ k => T_lconst (v := 0) d_Mo_small_18 (by decide) k) ?_
  refine S_lastore d_Mo_small_19 (by decide) a390 (vp_in_nI (by omega) (by omega)) ?_
  refine S_iincN (a := 5) (b := 1) (L' := [(3, .int (nI 6)), (0, .ref 373), (1, .int (nI d)), (2, .int x)]) d_Mo_small_20 (by decide) rfl rfl rfl ?_
  refine ST.lift (fun _ _ k => T_goto (tgt := 2) d_Mo_small_23 rfl k) ?_
  refine ST.lift (fun _ _ k => T_iload_n d_Mo_small_2 rfl k) ?_
  refine ST.lift (fun _ _ k => T_bipush (v := nI 16) d_Mo_small_3 (by decide) k) ?_
  refine S_icmp_geN d_Mo_small_5 rfl (by omega) (by omega) (fun c => by first | exact absurd c (by omega) | exact c.elim | exact absurd c (by decide) | exact absurd (by assumption) c | exact absurd c (by assumption)) (fun _ => ?_)
  refine ST.lift (fun _ _ k => T_aload_n (v := .ref 373) d_Mo_small_8 rfl (Or.inr ⟨_, rfl⟩) k) ?_
  refine S_getfield d_Mo_small_9 fg_Mo_124 (w373 _) rfl ?_
  refine ST.lift (fun _ _ k => T_bipush (v := nI 16) d_Mo_small_12 (by decide) k) ?_
  refine ST.lift (fun _ _ k => T_iload_n d_Mo_small_14 rfl k) ?_
  refine S_imulN d_Mo_small_15 ?_
  refine ST.lift (fun _ _ k => T_iload_n d_Mo_small_16 rfl k) ?_
  refine S_iaddN d_Mo_small_17 ?_
  refine ST.lift (fun _ _ k => T_lconst (v := 0) d_Mo_small_18 (by decide) k) ?_
  refine S_lastore d_Mo_small_19 (by decide) a390 (vp_in_nI (by omega) (by omega)) ?_
  refine S_iincN (a := 6) (b := 1) (L' := [(3, .int (nI 7)), (0, .ref 373), (1, .int (nI d)), (2, .int x)]) d_Mo_small_20 (by decide) rfl rfl rfl ?_
  refine ST.lift (fun _ _ k => T_goto (tgt := 2) d_Mo_small_23 rfl k) ?_
  refine ST.lift (fun _ _ k => T_iload_n d_Mo_small_2 rfl k) ?_
  refine ST.lift (fun _ _ k => T_bipush (v := nI 16) d_Mo_small_3 (by decide) k) ?_
  refine S_icmp_geN d_Mo_small_5 rfl (by omega) (by omega) (fun c => by first | exact absurd c (by omega) | exact c.elim | exact absurd c (by decide) | exact absurd (by assumption) c | exact absurd c (by assumption)) (fun _ => ?_)
  refine ST.lift (fun _ _ k => T_aload_n (v := .ref 373) d_Mo_small_8 rfl (Or.inr ⟨_, rfl⟩) k) ?_
  refine S_getfield d_Mo_small_9 fg_Mo_124 (w373 _) rfl ?_
  refine ST.lift (fun _ _ k => T_bipush (v := nI 16) d_Mo_small_12 (by decide) k) ?_
  refine ST.lift (fun _ _ k => T_iload_n d_Mo_small_14 rfl k) ?_
  refine S_imulN d_Mo_small_15 ?_
  refine ST.lift (fun _ _ k => T_iload_n d_Mo_small_16 rfl k) ?_
  refine S_iaddN d_Mo_small_17 ?_
  refine ST.lift (fun _ _ k => T_lconst (v := 0) d_Mo_small_18 (by decide) k) ?_
  refine S_lastore d_Mo_small_19 (by decide) a390 (vp_in_nI (by omega) (by omega)) ?_
  refine S_iincN (a := 7) (b := 1) (L' := [(3, .int (nI 8)), (0, .ref 373), (1, .int (nI d)), (2, .int x)]) d_Mo_small_20 (by decide) rfl rfl rfl ?_
  refine ST.lift (fun _ _ k => T_goto (tgt := 2) d_Mo_small_23 rfl k) ?_
  refine ST.lift (fun _ _ k => T_iload_n d_Mo_small_2 rfl k) ?_
  refine ST.lift (fun _ _ k => T_bipush (v := nI 16) d_Mo_small_3 (by decide) k) ?_
  refine S_icmp_geN d_Mo_small_5 rfl (by omega) (by omega) (fun c => by first | exact absurd c (by omega) | exact c.elim | exact absurd c (by decide) | exact absurd (by assumption) c | exact absurd c (by assumption)) (fun _ => ?_)
  refine ST.lift (fun _ _ k => T_aload_n (v := .ref 373) d_Mo_small_8 rfl (Or.inr ⟨_, rfl⟩) k) ?_
  refine S_getfield d_Mo_small_9 fg_Mo_124 (w373 _) rfl ?_
  refine ST.lift (fun _ _ k => T_bipush (v := nI 16) d_Mo_small_12 (by decide) k) ?_
  refine ST.lift (fun _ _ k => T_iload_n d_Mo_small_14 rfl k) ?_
  refine S_imulN d_Mo_small_15 ?_
  refine ST.lift (fun _ _ k => T_iload_n d_Mo_small_16 rfl k) ?_
  refine S_iaddN d_Mo_small_17 ?_
  refine ST.lift (fun _ _ k => T_lconst (v := 0) d_Mo_small_18 (by decide) k) ?_
  refine S_lastore d_Mo_small_19 (by decide) a390 (vp_in_nI (by omega) (by omega)) ?_
  refine S_iincN (a := 8) (b := 1) (L' := [(3, .int (nI 9)), (0, .ref 373), (1, .int (nI d)), (2, .int x)]) d_Mo_small_20 (by decide) rfl rfl rfl ?_
  refine ST.lift (fun _ _ k => T_goto (tgt := 2) d_Mo_small_23 rfl k) ?_
  refine ST.lift (fun _ _ k => T_iload_n d_Mo_small_2 rfl k) ?_
  refine ST.lift (fun _ _ k => T_bipush (v := nI 16) d_Mo_small_3 (by decide) k) ?_
  refine S_icmp_geN d_Mo_small_5 rfl (by omega) (by omega) (fun c => by first | exact absurd c (by omega) | exact c.elim | exact absurd c (by decide) | exact absurd (by assumption) c | exact absurd c (by assumption)) (fun _ => ?_)
  refine ST.lift (fun _ _ k => T_aload_n (v := .ref 373) d_Mo_small_8 rfl (Or.inr ⟨_, rfl⟩) k) ?_
  refine S_getfield d_Mo_small_9 fg_Mo_124 (w373 _) rfl ?_
  refine ST.lift (fun _ _ k => T_bipush (v := nI 16) d_Mo_small_12 (by decide) k) ?_
  refine ST.lift (fun _ _ k => T_iload_n d_Mo_small_14 rfl k) ?_
  refine S_imulN d_Mo_small_15 ?_
  refine ST.lift (fun _ _ k => T_iload_n d_Mo_small_16 rfl k) ?_
  refine S_iaddN d_Mo_small_17 ?_
  refine ST.lift (fun _ _ k => T_lconst (v := 0) d_Mo_small_18 (by decide) k) ?_
  refine S_lastore d_Mo_small_19 (by decide) a390 (vp_in_nI (by omega) (by omega)) ?_
  refine S_iincN (a := 9) (b := 1) (L' := [(3, .int (nI 10)), (0, .ref 373), (1, .int (nI d)), (2, .int x)]) d_Mo_small_20 (by decide) rfl rfl rfl ?_
  refine ST.lift (fun _ _ k => T_goto (tgt := 2) d_Mo_small_23 rfl k) ?_
  refine ST.lift (fun _ _ k => T_iload_n d_Mo_small_2 rfl k) ?_
  refine ST.lift (fun _ _ k => T_bipush (v := nI 16) d_Mo_small_3 (by decide) k) ?_
  refine S_icmp_geN d_Mo_small_5 rfl (by omega) (by omega) (fun c => by first | exact absurd c (by omega) | exact c.elim | exact absurd c (by decide) | exact absurd (by assumption) c | exact absurd c (by assumption)) (fun _ => ?_)
  refine ST.lift (fun _ _ k => T_aload_n (v := .ref 373) d_Mo_small_8 rfl (Or.inr ⟨_, rfl⟩) k) ?_
  refine S_getfield d_Mo_small_9 fg_Mo_124 (w373 _) rfl ?_
  refine ST.lift (fun _ _ k => T_bipush (v := nI 16) d_Mo_small_12 (by decide) k) ?_
  refine ST.lift (fun _ _ k => T_iload_n d_Mo_small_14 rfl k) ?_
  refine S_imulN d_Mo_small_15 ?_
  refine ST.lift (fun _ _ k => T_iload_n d_Mo_small_16 rfl k) ?_
  refine S_iaddN d_Mo_small_17 ?_
  refine ST.lift (fun _ _ k => T_lconst (v := 0) d_Mo_small_18 (by decide) k) ?_
  refine S_lastore d_Mo_small_19 (by decide) a390 (vp_in_nI (by omega) (by omega)) ?_
  refine S_iincN (a := 10) (b := 1) (L' := [(3, .int (nI 11)), (0, .ref 373), (1, .int (nI d)), (2, .int x)]) d_Mo_small_20 (by decide) rfl rfl rfl ?_
  refine ST.lift (fun _ _ k => T_goto (tgt := 2) d_Mo_small_23 rfl k) ?_
  refine ST.lift (fun _ _ k => T_iload_n d_Mo_small_2 rfl k) ?_
  refine ST.lift (fun _ _ k => T_bipush (v := nI 16) d_Mo_small_3 (by decide) k) ?_
  refine S_icmp_geN d_Mo_small_5 rfl (by omega) (by omega) (fun c => by first | exact absurd c (by omega) | exact c.elim | exact absurd c (by decide) | exact absurd (by assumption) c | exact absurd c (by assumption)) (fun _ => ?_)
  refine ST.lift (fun _ _ k => T_aload_n (v := .ref 373) d_Mo_small_8 rfl (Or.inr ⟨_, rfl⟩) k) ?_
  refine S_getfield d_Mo_small_9 fg_Mo_124 (w373 _) rfl ?_
  refine ST.lift (fun _ _ k => T_bipush (v := nI 16) d_Mo_small_12 (by decide) k) ?_
  refine ST.lift (fun _ _ k => T_iload_n d_Mo_small_14 rfl k) ?_
  refine S_imulN d_Mo_small_15 ?_
  refine ST.lift (fun _ _ k => T_iload_n d_Mo_small_16 rfl k) ?_
  refine S_iaddN d_Mo_small_17 ?_
  refine ST.lift (fun _ _ k => T_lconst (v := 0) d_Mo_small_18 (by decide) k) ?_
  refine S_lastore d_Mo_small_19 (by decide) a390 (vp_in_nI (by omega) (by omega)) ?_
  refine S_iincN (a := 11) (b := 1) (L' := [(3, .int (nI 12)), (0, .ref 373), (1, .int (nI d)), (2, .int x)]) d_Mo_small_20 (by decide) rfl rfl rfl ?_
  refine ST.lift (fun _ _ k => T_goto (tgt := 2) d_Mo_small_23 rfl k) ?_
  refine ST.lift (fun _ _ k => T_iload_n d_Mo_small_2 rfl k) ?_
  refine ST.lift (fun _ _ k => T_bipush (v := nI 16) d_Mo_small_3 (by decide) k) ?_
  refine S_icmp_geN d_Mo_small_5 rfl (by omega) (by omega) (fun c => by first | exact absurd c (by omega) | exact c.elim | exact absurd c (by decide) | exact absurd (by assumption) c | exact absurd c (by assumption)) (fun _ => ?_)
  refine ST.lift (fun _ _ k => T_aload_n (v := .ref 373) d_Mo_small_8 rfl (Or.inr ⟨_, rfl⟩) k) ?_
  refine S_getfield d_Mo_small_9 fg_Mo_124 (w373 _) rfl ?_
  refine ST.lift (fun _ _ k => T_bipush (v := nI 16) d_Mo_small_12 (by decide) k) ?_
  refine ST.lift (fun _ _ k => T_iload_n d_Mo_small_14 rfl k) ?_
  refine S_imulN d_Mo_small_15 ?_
  refine ST.lift (fun _ _ k => T_iload_n d_Mo_small_16 rfl k) ?_
  refine S_iaddN d_Mo_small_17 ?_
  refine ST.lift (fun _ _ k => T_lconst (v := 0) d_Mo_small_18 (by decide) k) ?_
  refine S_lastore d_Mo_small_19 (by decide) a390 (vp_in_nI (by omega) (by omega)) ?_
  refine S_iincN (a := 12) (b := 1) (L' := [(3, .int (nI 13)), (0, .ref 373), (1, .int (nI d)), (2, .int x)]) d_Mo_small_20 (by decide) rfl rfl rfl ?_
  refine ST.lift (fun _ _ k => T_goto (tgt := 2) d_Mo_small_23 rfl k) ?_
  refine ST.lift (fun _ _ k => T_iload_n d_Mo_small_2 rfl k) ?_
  refine ST.lift (fun _ _ k => T_bipush (v := nI 16) d_Mo_small_3 (by decide) k) ?_
  refine S_icmp_geN d_Mo_small_5 rfl (by omega) (by omega) (fun c => by first | exact absurd c (by omega) | exact c.elim | exact absurd c (by decide) | exact absurd (by assumption) c | exact absurd c (by assumption)) (fun _ => ?_)
  refine ST.lift (fun _ _ k => T_aload_n (v := .ref 373) d_Mo_small_8 rfl (Or.inr ⟨_, rfl⟩) k) ?_
  refine S_getfield d_Mo_small_9 fg_Mo_124 (w373 _) rfl ?_
  refine ST.lift (fun _ _ k => T_bipush (v := nI 16) d_Mo_small_12 (by decide) k) ?_
  refine ST.lift (fun _ _ k => T_iload_n d_Mo_small_14 rfl k) ?_
  refine S_imulN d_Mo_small_15 ?_
  refine ST.lift (fun _ _ k => T_iload_n d_Mo_small_16 rfl k) ?_
  refine S_iaddN d_Mo_small_17 ?_
  refine ST.lift (fun _ _ k => T_lconst (v := 0) d_Mo_small_18 (by decide) k) ?_
  refine S_lastore d_Mo_small_19 (by decide) a390 (vp_in_nI (by omega) (by omega)) ?_
  refine S_iincN (a := 13) (b := 1) (L' := [(3, .int (nI 14)), (0, .ref 373), (1, .int (nI d)), (2, .int x)]) d_Mo_small_20 (by decide) rfl rfl rfl ?_
  refine ST.lift (fun _ _ k => T_goto (tgt := 2) d_Mo_small_23 rfl k) ?_
  refine ST.lift (fun _ _ k => T_iload_n d_Mo_small_2 rfl k) ?_
  refine ST.lift (fun _ _ k => T_bipush (v := nI 16) d_Mo_small_3 (by decide) k) ?_
  refine S_icmp_geN d_Mo_small_5 rfl (by omega) (by omega) (fun c => by first | exact absurd c (by omega) | exact c.elim | exact absurd c (by decide) | exact absurd (by assumption) c | exact absurd c (by assumption)) (fun _ => ?_)
  refine ST.lift (fun _ _ k => T_aload_n (v := .ref 373) d_Mo_small_8 rfl (Or.inr ⟨_, rfl⟩) k) ?_
  refine S_getfield d_Mo_small_9 fg_Mo_124 (w373 _) rfl ?_
  refine ST.lift (fun _ _ k => T_bipush (v := nI 16) d_Mo_small_12 (by decide) k) ?_
  refine ST.lift (fun _ _ k => T_iload_n d_Mo_small_14 rfl k) ?_
  refine S_imulN d_Mo_small_15 ?_
  refine ST.lift (fun _ _ k => T_iload_n d_Mo_small_16 rfl k) ?_
  refine S_iaddN d_Mo_small_17 ?_
  refine ST.lift (fun _ _ k => T_lconst (v := 0) d_Mo_small_18 (by decide) k) ?_
  refine S_lastore d_Mo_small_19 (by decide) a390 (vp_in_nI (by omega) (by omega)) ?_
  refine S_iincN (a := 14) (b := 1) (L' := [(3, .int (nI 15)), (0, .ref 373), (1, .int (nI d)), (2, .int x)]) d_Mo_small_20 (by decide) rfl rfl rfl ?_
  refine ST.lift (fun _ _ k => T_goto (tgt := 2) d_Mo_small_23 rfl k) ?_
  refine ST.lift (fun _ _ k => T_iload_n d_Mo_small_2 rfl k) ?_
  refine ST.lift (fun _ _ k => T_bipush (v := nI 16) d_Mo_small_3 (by decide) k) ?_
  refine S_icmp_geN d_Mo_small_5 rfl (by omega) (by omega) (fun c => by first | exact absurd c (by omega) | exact c.elim | exact absurd c (by decide) | exact absurd (by assumption) c | exact absurd c (by assumption)) (fun _ => ?_)
  refine ST.lift (fun _ _ k => T_aload_n (v := .ref 373) d_Mo_small_8 rfl (Or.inr ⟨_, rfl⟩) k) ?_
  refine S_getfield d_Mo_small_9 fg_Mo_124 (w373 _) rfl ?_
  refine ST.lift (fun _ _ k => T_bipush (v := nI 16) d_Mo_small_12 (by decide) k) ?_
  refine ST.lift (fun _ _ k => T_iload_n d_Mo_small_14 rfl k) ?_
  refine S_imulN d_Mo_small_15 ?_
  refine ST.lift (fun _ _ k => T_iload_n d_Mo_small_16 rfl k) ?_
  refine S_iaddN d_Mo_small_17 ?_
  refine ST.lift (fun _ _ k => T_lconst (v := 0) d_Mo_small_18 (by decide) k) ?_
  refine S_lastore d_Mo_small_19 (by decide) a390 (vp_in_nI (by omega) (by omega)) ?_
  refine S_iincN (a := 15) (b := 1) (L' := [(3, .int (nI 16)), (0, .ref 373), (1, .int (nI d)), (2, .int x)]) d_Mo_small_20 (by decide) rfl rfl rfl ?_
  refine ST.lift (fun _ _ k => T_goto (tgt := 2) d_Mo_small_23 rfl k) ?_
  refine ST.lift (fun _ _ k => T_iload_n d_Mo_small_2 rfl k) ?_
  refine ST.lift (fun _ _ k => T_bipush (v := nI 16) d_Mo_small_3 (by decide) k) ?_
  refine S_icmp_geN d_Mo_small_5 rfl (by omega) (by omega) (fun _ => ?_) (fun c => by first | exact absurd c (by omega) | exact c.elim | exact absurd c (by decide) | exact absurd (by assumption) c | exact absurd c (by assumption))
  refine ST.lift (fun _ _ k => T_aload_n (v := .ref 373) d_Mo_small_26 rfl (Or.inr ⟨_, rfl⟩) k) ?_
  refine S_getfield d_Mo_small_27 fg_Mo_124 (w373 _) rfl ?_
  refine ST.lift (fun _ _ k => T_bipush (v := nI 16) d_Mo_small_30 (by decide) k) ?_
  refine ST.lift (fun _ _ k => T_iload_n d_Mo_small_32 rfl k) ?_
  refine S_imulN d_Mo_small_33 ?_
  refine ST.lift (fun _ _ k => T_iload_n d_Mo_small_34 rfl k) ?_
  refine ST.lift (fun _ _ k => T_ldc d_Mo_small_35 kI_Mo_127 k) ?_
  refine S_topi (y := nI 65535) (by decide) ?_
  refine S_iandM 16 d_Mo_small_37 (by decide) (by decide) (fun j1 hj1 => ?_)
  simp only [Nat.reducePow] at hj1
  refine ST.lift (fun _ _ k => T_i2l d_Mo_small_38 k) (S_anyl fun z2 => ?_)
  refine S_lastore d_Mo_small_39 (by decide) a390 (vp_in_nI (by omega) (by omega)) ?_
  refine ST.lift (fun _ _ k => T_aload_n (v := .ref 373) d_Mo_small_40 rfl (Or.inr ⟨_, rfl⟩) k) ?_
  refine S_getfield d_Mo_small_41 fg_Mo_124 (w373 _) rfl ?_
  refine ST.lift (fun _ _ k => T_bipush (v := nI 16) d_Mo_small_44 (by decide) k) ?_
  refine ST.lift (fun _ _ k => T_iload_n d_Mo_small_46 rfl k) ?_
  refine S_imulN d_Mo_small_47 ?_
  refine ST.lift (fun _ _ k => T_iconst (v := nI 1) d_Mo_small_48 (by decide) k) ?_
  refine S_iaddN d_Mo_small_49 ?_
  refine ST.lift (fun _ _ k => T_iload_n d_Mo_small_50 rfl k) ?_
  refine ST.lift (fun _ _ k => T_bipush (v := nI 16) d_Mo_small_51 (by decide) k) ?_
  refine ST.lift (fun _ _ k => T_ishr d_Mo_small_53 k) (S_anyi fun z3 => ?_)
  refine ST.lift (fun _ _ k => T_i2l d_Mo_small_54 k) (S_anyl fun z4 => ?_)
  refine S_lastore d_Mo_small_55 (by decide) a390 (vp_in_nI (by omega) (by omega)) ?_
  exact S_vret d_Mo_small_56 rfl (by decide) (by decide) hQ
set_option maxRecDepth 100000 in
set_option maxHeartbeats 4000000 in
theorem c_Mo_settle (G : GX) (v : Nat → Int32) (d : Nat) (b_d : d ≤ 63) : CS G mi_Mo_settle [.ref 373, .int (nI d)] v (fun r v' => r = none ∧ v' = v) := by
  refine CS.of (by decide) (Nat.le_of_ble_eq_true rfl) ?_
  generalize hQe : (fun (r : Option Value) (v' : Nat → Int32) => r = none ∧ v' = v) = Q
  have hQ : Q none v := by rw [← hQe]; exact ⟨rfl, rfl⟩
  clear hQe
  show ST G mi_Mo_settle 0 [(0, .ref 373), (1, .int (nI d))] [] v 0 0 Q
  refine ST.lift (fun _ _ k => T_iconst (v := nI 0) d_Mo_settle_0 (by decide) k) ?_
  refine ST.lift (fun _ _ k => T_istore_n (L' := [(2, .int (nI 0)), (0, .ref 373), (1, .int (nI d))]) d_Mo_settle_1 (by decide) rfl k) ?_
  have lp4 : ∀ (n2 k1 : Nat), 16 - k1 = n2 → 0 ≤ k1 ∧ k1 ≤ 0 + 16 → ST G mi_Mo_settle 2 [(2, .int (nI k1)), (0, .ref 373), (1, .int (nI d))] [] v 0 0 Q := by
    intro n2
    induction n2 using Nat.strongRecOn with
    | _ n2 ih3 =>
      intro k1 h5 h6
      refine ST.lift (fun _ _ k => T_iload_n d_Mo_settle_2 rfl k) ?_
      refine ST.lift (fun _ _ k => T_bipush (v := nI 16) d_Mo_settle_3 (by decide) k) ?_
      refine S_icmp_geN d_Mo_settle_5 rfl (by omega) (by omega) (fun c7 => ?_) (fun c7 => ?_)
      · exact S_vret d_Mo_settle_90 rfl (by decide) (by decide) hQ
      · refine ST.lift (fun _ _ k => T_aload_n (v := .ref 373) d_Mo_settle_8 rfl (Or.inr ⟨_, rfl⟩) k) ?_
        refine S_getfield d_Mo_settle_9 fg_Mo_124 (w373 _) rfl ?_
        refine ST.lift (fun _ _ k => T_bipush (v := nI 16) d_Mo_settle_12 (by decide) k) ?_
        refine ST.lift (fun _ _ k => T_iload_n d_Mo_settle_14 rfl k) ?_
        refine S_imulN d_Mo_settle_15 ?_
        refine ST.lift (fun _ _ k => T_iload_n d_Mo_settle_16 rfl k) ?_
        refine S_iaddN d_Mo_settle_17 ?_
        refine S_laload d_Mo_settle_18 a390 (vp_in_nI (by omega) (by omega)) (fun z8 => ?_)
        refine ST.lift (fun _ _ k => T_bipush (v := nI 16) d_Mo_settle_19 (by decide) k) ?_
        refine ST.lift (fun _ _ k => T_lshr d_Mo_settle_21 k) (S_anyl fun z9 => ?_)
        refine ST.lift (fun _ _ k => T_lstore_n (L' := [(3, .long z9), (2, .int (nI k1)), (0, .ref 373), (1, .int (nI d))]) d_Mo_settle_22 (by decide) rfl k) ?_
        refine ST.lift (fun _ _ k => T_aload_n (v := .ref 373) d_Mo_settle_23 rfl (Or.inr ⟨_, rfl⟩) k) ?_
        refine S_getfield d_Mo_settle_24 fg_Mo_124 (w373 _) rfl ?_
        refine ST.lift (fun _ _ k => T_bipush (v := nI 16) d_Mo_settle_27 (by decide) k) ?_
        refine ST.lift (fun _ _ k => T_iload_n d_Mo_settle_29 rfl k) ?_
        refine S_imulN d_Mo_settle_30 ?_
        refine ST.lift (fun _ _ k => T_iload_n d_Mo_settle_31 rfl k) ?_
        refine S_iaddN d_Mo_settle_32 ?_
        refine ST.lift (fun _ _ k => T_dup2 d_Mo_settle_33 rfl rfl k) ?_
        refine S_laload d_Mo_settle_34 a390 (vp_in_nI (by omega) (by omega)) (fun z10 => ?_)
        refine ST.lift (fun _ _ k => T_lload_n d_Mo_settle_35 rfl k) ?_
        refine ST.lift (fun _ _ k => T_bipush (v := nI 16) d_Mo_settle_36 (by decide) k) ?_
        refine ST.lift (fun _ _ k => T_lshl d_Mo_settle_38 k) (S_anyl fun z11 => ?_)
        refine ST.lift (fun _ _ k => T_lsub d_Mo_settle_39 k) (S_anyl fun z12 => ?_)
        refine S_lastore d_Mo_settle_40 (by decide) a390 (vp_in_nI (by omega) (by omega)) ?_
        refine ST.lift (fun _ _ k => T_iload_n d_Mo_settle_41 rfl k) ?_
        refine ST.lift (fun _ _ k => T_bipush (v := nI 15) d_Mo_settle_42 (by decide) k) ?_
        have J84_19 : ST G mi_Mo_settle 84 [(3, .long z9), (2, .int (nI k1)), (0, .ref 373), (1, .int (nI d))] [] v 0 0 Q := by
          refine S_iincN (a := k1) (b := 1) (L' := [(2, .int (nI (k1 + 1))), (3, .long z9), (0, .ref 373), (1, .int (nI d))]) d_Mo_settle_84 (by decide) rfl rfl rfl ?_
          refine ST.lift (fun _ _ k => T_goto (tgt := 2) d_Mo_settle_87 rfl k) ?_
          refine S_pick [0, 2, 3] rfl ?_
          exact ih3 (16 - (k1 + 1)) (by omega) (k1 + 1)  rfl (by omega)
        refine S_icmp_geN d_Mo_settle_44 rfl (by omega) (by omega) (fun c13 => ?_) (fun c13 => ?_)
        · refine ST.lift (fun _ _ k => T_aload_n (v := .ref 373) d_Mo_settle_67 rfl (Or.inr ⟨_, rfl⟩) k) ?_
          refine S_getfield d_Mo_settle_68 fg_Mo_124 (w373 _) rfl ?_
          refine ST.lift (fun _ _ k => T_bipush (v := nI 16) d_Mo_settle_71 (by decide) k) ?_
          refine ST.lift (fun _ _ k => T_iload_n d_Mo_settle_73 rfl k) ?_
          refine S_imulN d_Mo_settle_74 ?_
          refine ST.lift (fun _ _ k => T_dup2 d_Mo_settle_75 rfl rfl k) ?_
          refine S_laload d_Mo_settle_76 a390 (vp_in_nI (by omega) (by omega)) (fun z20 => ?_)
          refine ST.lift (fun _ _ k => T_ldc2 d_Mo_settle_77 kJ_Mo_128 k) ?_
          refine ST.lift (fun _ _ k => T_lload_n d_Mo_settle_80 rfl k) ?_
          refine ST.lift (fun _ _ k => T_lmul d_Mo_settle_81 k) (S_anyl fun z21 => ?_)
          refine ST.lift (fun _ _ k => T_ladd d_Mo_settle_82 k) (S_anyl fun z22 => ?_)
          refine S_lastore d_Mo_settle_83 (by decide) a390 (vp_in_nI (by omega) (by omega)) ?_
          exact J84_19 
        · refine ST.lift (fun _ _ k => T_aload_n (v := .ref 373) d_Mo_settle_47 rfl (Or.inr ⟨_, rfl⟩) k) ?_
          refine S_getfield d_Mo_settle_48 fg_Mo_124 (w373 _) rfl ?_
          refine ST.lift (fun _ _ k => T_bipush (v := nI 16) d_Mo_settle_51 (by decide) k) ?_
          refine ST.lift (fun _ _ k => T_iload_n d_Mo_settle_53 rfl k) ?_
          refine S_imulN d_Mo_settle_54 ?_
          refine ST.lift (fun _ _ k => T_iload_n d_Mo_settle_55 rfl k) ?_
          refine S_iaddN d_Mo_settle_56 ?_
          refine ST.lift (fun _ _ k => T_iconst (v := nI 1) d_Mo_settle_57 (by decide) k) ?_
          refine S_iaddN d_Mo_settle_58 ?_
          refine ST.lift (fun _ _ k => T_dup2 d_Mo_settle_59 rfl rfl k) ?_
          refine S_laload d_Mo_settle_60 a390 (vp_in_nI (by omega) (by omega)) (fun z23 => ?_)
          refine ST.lift (fun _ _ k => T_lload_n d_Mo_settle_61 rfl k) ?_
          refine ST.lift (fun _ _ k => T_ladd d_Mo_settle_62 k) (S_anyl fun z24 => ?_)
          refine S_lastore d_Mo_settle_63 (by decide) a390 (vp_in_nI (by omega) (by omega)) ?_
          refine ST.lift (fun _ _ k => T_goto (tgt := 84) d_Mo_settle_64 rfl k) ?_
          exact J84_19 
  exact lp4 _ 0  rfl (by omega)
set_option maxRecDepth 100000 in
set_option maxHeartbeats 4000000 in
theorem c_Mo_add (G : GX) (v : Nat → Int32) (d : Nat) (b_d : d ≤ 63) (a : Nat) (b_a : a ≤ 63) (b : Nat) (b_b : b ≤ 63) : CS G mi_Mo_add [.ref 373, .int (nI d), .int (nI a), .int (nI b)] v (fun r v' => r = none ∧ v' = v) := by
  refine CS.of (by decide) (Nat.le_of_ble_eq_true rfl) ?_
  generalize hQe : (fun (r : Option Value) (v' : Nat → Int32) => r = none ∧ v' = v) = Q
  have hQ : Q none v := by rw [← hQe]; exact ⟨rfl, rfl⟩
  clear hQe
  show ST G mi_Mo_add 0 [(0, .ref 373), (1, .int (nI d)), (2, .int (nI a)), (3, .int (nI b))] [] v 0 0 Q
  refine ST.lift (fun _ _ k => T_iconst (v := nI 0) d_Mo_add_0 (by decide) k) ?_
  refine ST.lift (fun _ _ k => T_istore (L' := [(4, .int (nI 0)), (0, .ref 373), (1, .int (nI d)), (2, .int (nI a)), (3, .int (nI b))]) d_Mo_add_1 (by decide) rfl k) ?_
  have lp4 : ∀ (n2 k1 : Nat), 16 - k1 = n2 → 0 ≤ k1 ∧ k1 ≤ 0 + 16 → ST G mi_Mo_add 3 [(4, .int (nI k1)), (0, .ref 373), (1, .int (nI d)), (2, .int (nI a)), (3, .int (nI b))] [] v 0 0 Q := by
    intro n2
    induction n2 using Nat.strongRecOn with
    | _ n2 ih3 =>
      intro k1 h5 h6
      refine ST.lift (fun _ _ k => T_iload d_Mo_add_3 rfl k) ?_
      refine ST.lift (fun _ _ k => T_bipush (v := nI 16) d_Mo_add_5 (by decide) k) ?_
      refine S_icmp_geN d_Mo_add_7 rfl (by omega) (by omega) (fun c7 => ?_) (fun c7 => ?_)
      · refine ST.lift (fun _ _ k => T_aload_n (v := .ref 373) d_Mo_add_53 rfl (Or.inr ⟨_, rfl⟩) k) ?_
        refine ST.lift (fun _ _ k => T_iload_n d_Mo_add_54 rfl k) ?_
        refine S_virtual (as := [.int (nI d)]) (rest := []) (b := 373) d_Mo_add_55 rfl (jw_Mo_settle.jo (by decide)) lm_Mo_130 ji_Mo_settle js_Mo_settle (w373 _) rfl rfl rfl (Nat.le_of_ble_eq_true rfl) (by decide) (by decide) (c_Mo_settle G v d (by omega)) (fun r v' hq => ?_)
        rw [hq.1, hq.2]
        clear hq r v'
        show ST G mi_Mo_add 58 [(4, .int (nI k1)), (0, .ref 373), (1, .int (nI d)), (2, .int (nI a)), (3, .int (nI b))] [] v 0 0 _
        exact S_vret d_Mo_add_58 rfl (by decide) (by decide) hQ
      · refine ST.lift (fun _ _ k => T_aload_n (v := .ref 373) d_Mo_add_10 rfl (Or.inr ⟨_, rfl⟩) k) ?_
        refine S_getfield d_Mo_add_11 fg_Mo_124 (w373 _) rfl ?_
        refine ST.lift (fun _ _ k => T_bipush (v := nI 16) d_Mo_add_14 (by decide) k) ?_
        refine ST.lift (fun _ _ k => T_iload_n d_Mo_add_16 rfl k) ?_
        refine S_imulN d_Mo_add_17 ?_
        refine ST.lift (fun _ _ k => T_iload d_Mo_add_18 rfl k) ?_
        refine S_iaddN d_Mo_add_20 ?_
        refine ST.lift (fun _ _ k => T_aload_n (v := .ref 373) d_Mo_add_21 rfl (Or.inr ⟨_, rfl⟩) k) ?_
        refine S_getfield d_Mo_add_22 fg_Mo_124 (w373 _) rfl ?_
        refine ST.lift (fun _ _ k => T_bipush (v := nI 16) d_Mo_add_25 (by decide) k) ?_
        refine ST.lift (fun _ _ k => T_iload_n d_Mo_add_27 rfl k) ?_
        refine S_imulN d_Mo_add_28 ?_
        refine ST.lift (fun _ _ k => T_iload d_Mo_add_29 rfl k) ?_
        refine S_iaddN d_Mo_add_31 ?_
        refine S_laload d_Mo_add_32 a390 (vp_in_nI (by omega) (by omega)) (fun z11 => ?_)
        refine ST.lift (fun _ _ k => T_aload_n (v := .ref 373) d_Mo_add_33 rfl (Or.inr ⟨_, rfl⟩) k) ?_
        refine S_getfield d_Mo_add_34 fg_Mo_124 (w373 _) rfl ?_
        refine ST.lift (fun _ _ k => T_bipush (v := nI 16) d_Mo_add_37 (by decide) k) ?_
        refine ST.lift (fun _ _ k => T_iload_n d_Mo_add_39 rfl k) ?_
        refine S_imulN d_Mo_add_40 ?_
        refine ST.lift (fun _ _ k => T_iload d_Mo_add_41 rfl k) ?_
        refine S_iaddN d_Mo_add_43 ?_
        refine S_laload d_Mo_add_44 a390 (vp_in_nI (by omega) (by omega)) (fun z12 => ?_)
        refine ST.lift (fun _ _ k => T_ladd d_Mo_add_45 k) (S_anyl fun z13 => ?_)
        refine S_lastore d_Mo_add_46 (by decide) a390 (vp_in_nI (by omega) (by omega)) ?_
        refine S_iincN (a := k1) (b := 1) (L' := [(4, .int (nI (k1 + 1))), (0, .ref 373), (1, .int (nI d)), (2, .int (nI a)), (3, .int (nI b))]) d_Mo_add_47 (by decide) rfl rfl rfl ?_
        refine ST.lift (fun _ _ k => T_goto (tgt := 3) d_Mo_add_50 rfl k) ?_
        exact ih3 (16 - (k1 + 1)) (by omega) (k1 + 1)  rfl (by omega)
  exact lp4 _ 0  rfl (by omega)
set_option maxRecDepth 100000 in
set_option maxHeartbeats 4000000 in
theorem c_Mo_sub (G : GX) (v : Nat → Int32) (d : Nat) (b_d : d ≤ 63) (a : Nat) (b_a : a ≤ 63) (b : Nat) (b_b : b ≤ 63) : CS G mi_Mo_sub [.ref 373, .int (nI d), .int (nI a), .int (nI b)] v (fun r v' => r = none ∧ v' = v) := by
  refine CS.of (by decide) (Nat.le_of_ble_eq_true rfl) ?_
  generalize hQe : (fun (r : Option Value) (v' : Nat → Int32) => r = none ∧ v' = v) = Q
  have hQ : Q none v := by rw [← hQe]; exact ⟨rfl, rfl⟩
  clear hQe
  show ST G mi_Mo_sub 0 [(0, .ref 373), (1, .int (nI d)), (2, .int (nI a)), (3, .int (nI b))] [] v 0 0 Q
  refine ST.lift (fun _ _ k => T_iconst (v := nI 0) d_Mo_sub_0 (by decide) k) ?_
  refine ST.lift (fun _ _ k => T_istore (L' := [(4, .int (nI 0)), (0, .ref 373), (1, .int (nI d)), (2, .int (nI a)), (3, .int (nI b))]) d_Mo_sub_1 (by decide) rfl k) ?_
  have lp4 : ∀ (n2 k1 : Nat), 16 - k1 = n2 → 0 ≤ k1 ∧ k1 ≤ 0 + 16 → ST G mi_Mo_sub 3 [(4, .int (nI k1)), (0, .ref 373), (1, .int (nI d)), (2, .int (nI a)), (3, .int (nI b))] [] v 0 0 Q := by
    intro n2
    induction n2 using Nat.strongRecOn with
    | _ n2 ih3 =>
      intro k1 h5 h6
      refine ST.lift (fun _ _ k => T_iload d_Mo_sub_3 rfl k) ?_
      refine ST.lift (fun _ _ k => T_bipush (v := nI 16) d_Mo_sub_5 (by decide) k) ?_
      refine S_icmp_geN d_Mo_sub_7 rfl (by omega) (by omega) (fun c7 => ?_) (fun c7 => ?_)
      · refine ST.lift (fun _ _ k => T_aload_n (v := .ref 373) d_Mo_sub_53 rfl (Or.inr ⟨_, rfl⟩) k) ?_
        refine ST.lift (fun _ _ k => T_iload_n d_Mo_sub_54 rfl k) ?_
        refine S_virtual (as := [.int (nI d)]) (rest := []) (b := 373) d_Mo_sub_55 rfl (jw_Mo_settle.jo (by decide)) lm_Mo_130 ji_Mo_settle js_Mo_settle (w373 _) rfl rfl rfl (Nat.le_of_ble_eq_true rfl) (by decide) (by decide) (c_Mo_settle G v d (by omega)) (fun r v' hq => ?_)
        rw [hq.1, hq.2]
        clear hq r v'
        show ST G mi_Mo_sub 58 [(4, .int (nI k1)), (0, .ref 373), (1, .int (nI d)), (2, .int (nI a)), (3, .int (nI b))] [] v 0 0 _
        exact S_vret d_Mo_sub_58 rfl (by decide) (by decide) hQ
      · refine ST.lift (fun _ _ k => T_aload_n (v := .ref 373) d_Mo_sub_10 rfl (Or.inr ⟨_, rfl⟩) k) ?_
        refine S_getfield d_Mo_sub_11 fg_Mo_124 (w373 _) rfl ?_
        refine ST.lift (fun _ _ k => T_bipush (v := nI 16) d_Mo_sub_14 (by decide) k) ?_
        refine ST.lift (fun _ _ k => T_iload_n d_Mo_sub_16 rfl k) ?_
        refine S_imulN d_Mo_sub_17 ?_
        refine ST.lift (fun _ _ k => T_iload d_Mo_sub_18 rfl k) ?_
        refine S_iaddN d_Mo_sub_20 ?_
        refine ST.lift (fun _ _ k => T_aload_n (v := .ref 373) d_Mo_sub_21 rfl (Or.inr ⟨_, rfl⟩) k) ?_
        refine S_getfield d_Mo_sub_22 fg_Mo_124 (w373 _) rfl ?_
        refine ST.lift (fun _ _ k => T_bipush (v := nI 16) d_Mo_sub_25 (by decide) k) ?_
        refine ST.lift (fun _ _ k => T_iload_n d_Mo_sub_27 rfl k) ?_
        refine S_imulN d_Mo_sub_28 ?_
        refine ST.lift (fun _ _ k => T_iload d_Mo_sub_29 rfl k) ?_
        refine S_iaddN d_Mo_sub_31 ?_
        refine S_laload d_Mo_sub_32 a390 (vp_in_nI (by omega) (by omega)) (fun z11 => ?_)
        refine ST.lift (fun _ _ k => T_aload_n (v := .ref 373) d_Mo_sub_33 rfl (Or.inr ⟨_, rfl⟩) k) ?_
        refine S_getfield d_Mo_sub_34 fg_Mo_124 (w373 _) rfl ?_
        refine ST.lift (fun _ _ k => T_bipush (v := nI 16) d_Mo_sub_37 (by decide) k) ?_
        refine ST.lift (fun _ _ k => T_iload_n d_Mo_sub_39 rfl k) ?_
        refine S_imulN d_Mo_sub_40 ?_
        refine ST.lift (fun _ _ k => T_iload d_Mo_sub_41 rfl k) ?_
        refine S_iaddN d_Mo_sub_43 ?_
        refine S_laload d_Mo_sub_44 a390 (vp_in_nI (by omega) (by omega)) (fun z12 => ?_)
        refine ST.lift (fun _ _ k => T_lsub d_Mo_sub_45 k) (S_anyl fun z13 => ?_)
        refine S_lastore d_Mo_sub_46 (by decide) a390 (vp_in_nI (by omega) (by omega)) ?_
        refine S_iincN (a := k1) (b := 1) (L' := [(4, .int (nI (k1 + 1))), (0, .ref 373), (1, .int (nI d)), (2, .int (nI a)), (3, .int (nI b))]) d_Mo_sub_47 (by decide) rfl rfl rfl ?_
        refine ST.lift (fun _ _ k => T_goto (tgt := 3) d_Mo_sub_50 rfl k) ?_
        exact ih3 (16 - (k1 + 1)) (by omega) (k1 + 1)  rfl (by omega)
  exact lp4 _ 0  rfl (by omega)
set_option maxRecDepth 100000 in
set_option maxHeartbeats 4000000 in
theorem c_Mo_mul (G : GX) (v : Nat → Int32) (d : Nat) (b_d : d ≤ 63) (a : Nat) (b_a : a ≤ 63) (b : Nat) (b_b : b ≤ 63) : CS G mi_Mo_mul [.ref 373, .int (nI d), .int (nI a), .int (nI b)] v (fun r v' => r = none ∧ v' = v) := by
  refine CS.of (by decide) (Nat.le_of_ble_eq_true rfl) ?_
  generalize hQe : (fun (r : Option Value) (v' : Nat → Int32) => r = none ∧ v' = v) = Q
  have hQ : Q none v := by rw [← hQe]; exact ⟨rfl, rfl⟩
  clear hQe
  show ST G mi_Mo_mul 0 [(0, .ref 373), (1, .int (nI d)), (2, .int (nI a)), (3, .int (nI b))] [] v 0 0 Q
  refine ST.lift (fun _ _ k => T_iconst (v := nI 0) d_Mo_mul_0 (by decide) k) ?_
  refine ST.lift (fun _ _ k => T_istore (L' := [(4, .int (nI 0)), (0, .ref 373), (1, .int (nI d)), (2, .int (nI a)), (3, .int (nI b))]) d_Mo_mul_1 (by decide) rfl k) ?_
  have lp4 : ∀ (n2 k1 : Nat), 31 - k1 = n2 → 0 ≤ k1 ∧ k1 ≤ 0 + 31 → ST G mi_Mo_mul 3 [(4, .int (nI k1)), (0, .ref 373), (1, .int (nI d)), (2, .int (nI a)), (3, .int (nI b))] [] v 0 0 Q := by
    intro n2
    induction n2 using Nat.strongRecOn with
    | _ n2 ih3 =>
      intro k1 h5 h6
      refine ST.lift (fun _ _ k => T_iload d_Mo_mul_3 rfl k) ?_
      refine ST.lift (fun _ _ k => T_bipush (v := nI 31) d_Mo_mul_5 (by decide) k) ?_
      refine S_icmp_geN d_Mo_mul_7 rfl (by omega) (by omega) (fun c7 => ?_) (fun c7 => ?_)
      · refine ST.lift (fun _ _ k => T_iconst (v := nI 0) d_Mo_mul_24 (by decide) k) ?_
        refine ST.lift (fun _ _ k => T_istore (L' := [(4, .int (nI 0)), (0, .ref 373), (1, .int (nI d)), (2, .int (nI a)), (3, .int (nI b))]) d_Mo_mul_25 (by decide) rfl k) ?_
        have lp11 : ∀ (n9 k8 : Nat), 16 - k8 = n9 → 0 ≤ k8 ∧ k8 ≤ 0 + 16 → ST G mi_Mo_mul 27 [(4, .int (nI k8)), (0, .ref 373), (1, .int (nI d)), (2, .int (nI a)), (3, .int (nI b))] [] v 0 0 Q := by
          intro n9
          induction n9 using Nat.strongRecOn with
          | _ n9 ih10 =>
            intro k8 h12 h13
            refine ST.lift (fun _ _ k => T_iload d_Mo_mul_27 rfl k) ?_
            refine ST.lift (fun _ _ k => T_bipush (v := nI 16) d_Mo_mul_29 (by decide) k) ?_
            refine S_icmp_geN d_Mo_mul_31 rfl (by omega) (by omega) (fun c14 => ?_) (fun c14 => ?_)
            · refine ST.lift (fun _ _ k => T_iconst (v := nI 0) d_Mo_mul_94 (by decide) k) ?_
              refine ST.lift (fun _ _ k => T_istore (L' := [(4, .int (nI 0)), (0, .ref 373), (1, .int (nI d)), (2, .int (nI a)), (3, .int (nI b))]) d_Mo_mul_95 (by decide) rfl k) ?_
              have lp35 : ∀ (n33 k32 : Nat), 15 - k32 = n33 → 0 ≤ k32 ∧ k32 ≤ 0 + 15 → ST G mi_Mo_mul 97 [(4, .int (nI k32)), (0, .ref 373), (1, .int (nI d)), (2, .int (nI a)), (3, .int (nI b))] [] v 0 0 Q := by
                intro n33
                induction n33 using Nat.strongRecOn with
                | _ n33 ih34 =>
                  intro k32 h36 h37
                  refine ST.lift (fun _ _ k => T_iload d_Mo_mul_97 rfl k) ?_
                  refine ST.lift (fun _ _ k => T_bipush (v := nI 15) d_Mo_mul_99 (by decide) k) ?_
                  refine S_icmp_geN d_Mo_mul_101 rfl (by omega) (by omega) (fun c38 => ?_) (fun c38 => ?_)
                  · refine ST.lift (fun _ _ k => T_iconst (v := nI 0) d_Mo_mul_134 (by decide) k) ?_
                    refine ST.lift (fun _ _ k => T_istore (L' := [(4, .int (nI 0)), (0, .ref 373), (1, .int (nI d)), (2, .int (nI a)), (3, .int (nI b))]) d_Mo_mul_135 (by decide) rfl k) ?_
                    have lp46 : ∀ (n44 k43 : Nat), 16 - k43 = n44 → 0 ≤ k43 ∧ k43 ≤ 0 + 16 → ST G mi_Mo_mul 137 [(4, .int (nI k43)), (0, .ref 373), (1, .int (nI d)), (2, .int (nI a)), (3, .int (nI b))] [] v 0 0 Q := by
                      intro n44
                      induction n44 using Nat.strongRecOn with
                      | _ n44 ih45 =>
                        intro k43 h47 h48
                        refine ST.lift (fun _ _ k => T_iload d_Mo_mul_137 rfl k) ?_
                        refine ST.lift (fun _ _ k => T_bipush (v := nI 16) d_Mo_mul_139 (by decide) k) ?_
                        refine S_icmp_geN d_Mo_mul_141 rfl (by omega) (by omega) (fun c49 => ?_) (fun c49 => ?_)
                        · refine ST.lift (fun _ _ k => T_aload_n (v := .ref 373) d_Mo_mul_169 rfl (Or.inr ⟨_, rfl⟩) k) ?_
                          refine ST.lift (fun _ _ k => T_iload_n d_Mo_mul_170 rfl k) ?_
                          refine S_virtual (as := [.int (nI d)]) (rest := []) (b := 373) d_Mo_mul_171 rfl (jw_Mo_settle.jo (by decide)) lm_Mo_130 ji_Mo_settle js_Mo_settle (w373 _) rfl rfl rfl (Nat.le_of_ble_eq_true rfl) (by decide) (by decide) (c_Mo_settle G v d (by omega)) (fun r v' hq => ?_)
                          rw [hq.1, hq.2]
                          clear hq r v'
                          show ST G mi_Mo_mul 174 [(4, .int (nI k43)), (0, .ref 373), (1, .int (nI d)), (2, .int (nI a)), (3, .int (nI b))] [] v 0 0 _
                          refine ST.lift (fun _ _ k => T_aload_n (v := .ref 373) d_Mo_mul_174 rfl (Or.inr ⟨_, rfl⟩) k) ?_
                          refine ST.lift (fun _ _ k => T_iload_n d_Mo_mul_175 rfl k) ?_
                          refine S_virtual (as := [.int (nI d)]) (rest := []) (b := 373) d_Mo_mul_176 rfl (jw_Mo_settle.jo (by decide)) lm_Mo_130 ji_Mo_settle js_Mo_settle (w373 _) rfl rfl rfl (Nat.le_of_ble_eq_true rfl) (by decide) (by decide) (c_Mo_settle G v d (by omega)) (fun r v' hq => ?_)
                          rw [hq.1, hq.2]
                          clear hq r v'
                          show ST G mi_Mo_mul 179 [(4, .int (nI k43)), (0, .ref 373), (1, .int (nI d)), (2, .int (nI a)), (3, .int (nI b))] [] v 0 0 _
                          exact S_vret d_Mo_mul_179 rfl (by decide) (by decide) hQ
                        · refine ST.lift (fun _ _ k => T_aload_n (v := .ref 373) d_Mo_mul_144 rfl (Or.inr ⟨_, rfl⟩) k) ?_
                          refine S_getfield d_Mo_mul_145 fg_Mo_124 (w373 _) rfl ?_
                          refine ST.lift (fun _ _ k => T_bipush (v := nI 16) d_Mo_mul_148 (by decide) k) ?_
                          refine ST.lift (fun _ _ k => T_iload_n d_Mo_mul_150 rfl k) ?_
                          refine S_imulN d_Mo_mul_151 ?_
                          refine ST.lift (fun _ _ k => T_iload d_Mo_mul_152 rfl k) ?_
                          refine S_iaddN d_Mo_mul_154 ?_
                          refine ST.lift (fun _ _ k => T_aload_n (v := .ref 373) d_Mo_mul_155 rfl (Or.inr ⟨_, rfl⟩) k) ?_
                          refine S_getfield d_Mo_mul_156 fg_Mo_133 (w373 _) rfl ?_
                          refine ST.lift (fun _ _ k => T_iload d_Mo_mul_159 rfl k) ?_
                          refine S_laload d_Mo_mul_161 a391 (vp_in_nI (by omega) (by omega)) (fun z51 => ?_)
                          refine S_lastore d_Mo_mul_162 (by decide) a390 (vp_in_nI (by omega) (by omega)) ?_
                          refine S_iincN (a := k43) (b := 1) (L' := [(4, .int (nI (k43 + 1))), (0, .ref 373), (1, .int (nI d)), (2, .int (nI a)), (3, .int (nI b))]) d_Mo_mul_163 (by decide) rfl rfl rfl ?_
                          refine ST.lift (fun _ _ k => T_goto (tgt := 137) d_Mo_mul_166 rfl k) ?_
                          exact ih45 (16 - (k43 + 1)) (by omega) (k43 + 1)  rfl (by omega)
                    exact lp46 _ 0  rfl (by omega)
                  · refine ST.lift (fun _ _ k => T_aload_n (v := .ref 373) d_Mo_mul_104 rfl (Or.inr ⟨_, rfl⟩) k) ?_
                    refine S_getfield d_Mo_mul_105 fg_Mo_133 (w373 _) rfl ?_
                    refine ST.lift (fun _ _ k => T_iload d_Mo_mul_108 rfl k) ?_
                    refine ST.lift (fun _ _ k => T_dup2 d_Mo_mul_110 rfl rfl k) ?_
                    refine S_laload d_Mo_mul_111 a391 (vp_in_nI (by omega) (by omega)) (fun z52 => ?_)
                    refine ST.lift (fun _ _ k => T_ldc2 d_Mo_mul_112 kJ_Mo_128 k) ?_
                    refine ST.lift (fun _ _ k => T_aload_n (v := .ref 373) d_Mo_mul_115 rfl (Or.inr ⟨_, rfl⟩) k) ?_
                    refine S_getfield d_Mo_mul_116 fg_Mo_133 (w373 _) rfl ?_
                    refine ST.lift (fun _ _ k => T_iload d_Mo_mul_119 rfl k) ?_
                    refine ST.lift (fun _ _ k => T_bipush (v := nI 16) d_Mo_mul_121 (by decide) k) ?_
                    refine S_iaddN d_Mo_mul_123 ?_
                    refine S_laload d_Mo_mul_124 a391 (vp_in_nI (by omega) (by omega)) (fun z53 => ?_)
                    refine ST.lift (fun _ _ k => T_lmul d_Mo_mul_125 k) (S_anyl fun z54 => ?_)
                    refine ST.lift (fun _ _ k => T_ladd d_Mo_mul_126 k) (S_anyl fun z55 => ?_)
                    refine S_lastore d_Mo_mul_127 (by decide) a391 (vp_in_nI (by omega) (by omega)) ?_
                    refine S_iincN (a := k32) (b := 1) (L' := [(4, .int (nI (k32 + 1))), (0, .ref 373), (1, .int (nI d)), (2, .int (nI a)), (3, .int (nI b))]) d_Mo_mul_128 (by decide) rfl rfl rfl ?_
                    refine ST.lift (fun _ _ k => T_goto (tgt := 97) d_Mo_mul_131 rfl k) ?_
                    exact ih34 (15 - (k32 + 1)) (by omega) (k32 + 1)  rfl (by omega)
              exact lp35 _ 0  rfl (by omega)
            · refine ST.lift (fun _ _ k => T_iconst (v := nI 0) d_Mo_mul_34 (by decide) k) ?_
              refine ST.lift (fun _ _ k => T_istore (L' := [(5, .int (nI 0)), (4, .int (nI k8)), (0, .ref 373), (1, .int (nI d)), (2, .int (nI a)), (3, .int (nI b))]) d_Mo_mul_35 (by decide) rfl k) ?_
              have lp59 : ∀ (n57 k56 : Nat), 16 - k56 = n57 → 0 ≤ k56 ∧ k56 ≤ 0 + 16 → ST G mi_Mo_mul 37 [(5, .int (nI k56)), (4, .int (nI k8)), (0, .ref 373), (1, .int (nI d)), (2, .int (nI a)), (3, .int (nI b))] [] v 0 0 Q := by
                intro n57
                induction n57 using Nat.strongRecOn with
                | _ n57 ih58 =>
                  intro k56 h60 h61
                  refine ST.lift (fun _ _ k => T_iload d_Mo_mul_37 rfl k) ?_
                  refine ST.lift (fun _ _ k => T_bipush (v := nI 16) d_Mo_mul_39 (by decide) k) ?_
                  refine S_icmp_geN d_Mo_mul_41 rfl (by omega) (by omega) (fun c62 => ?_) (fun c62 => ?_)
                  · refine S_iincN (a := k8) (b := 1) (L' := [(4, .int (nI (k8 + 1))), (5, .int (nI k56)), (0, .ref 373), (1, .int (nI d)), (2, .int (nI a)), (3, .int (nI b))]) d_Mo_mul_88 (by decide) rfl rfl rfl ?_
                    refine ST.lift (fun _ _ k => T_goto (tgt := 27) d_Mo_mul_91 rfl k) ?_
                    refine S_pick [0, 2, 3, 4, 5] rfl ?_
                    exact ih10 (16 - (k8 + 1)) (by omega) (k8 + 1)  rfl (by omega)
                  · refine ST.lift (fun _ _ k => T_aload_n (v := .ref 373) d_Mo_mul_44 rfl (Or.inr ⟨_, rfl⟩) k) ?_
                    refine S_getfield d_Mo_mul_45 fg_Mo_133 (w373 _) rfl ?_
                    refine ST.lift (fun _ _ k => T_iload d_Mo_mul_48 rfl k) ?_
                    refine ST.lift (fun _ _ k => T_iload d_Mo_mul_50 rfl k) ?_
                    refine S_iaddN d_Mo_mul_52 ?_
                    refine ST.lift (fun _ _ k => T_dup2 d_Mo_mul_53 rfl rfl k) ?_
                    refine S_laload d_Mo_mul_54 a391 (vp_in_nI (by omega) (by omega)) (fun z68 => ?_)
                    refine ST.lift (fun _ _ k => T_aload_n (v := .ref 373) d_Mo_mul_55 rfl (Or.inr ⟨_, rfl⟩) k) ?_
                    refine S_getfield d_Mo_mul_56 fg_Mo_124 (w373 _) rfl ?_
                    refine ST.lift (fun _ _ k => T_bipush (v := nI 16) d_Mo_mul_59 (by decide) k) ?_
                    refine ST.lift (fun _ _ k => T_iload_n d_Mo_mul_61 rfl k) ?_
                    refine S_imulN d_Mo_mul_62 ?_
                    refine ST.lift (fun _ _ k => T_iload d_Mo_mul_63 rfl k) ?_
                    refine S_iaddN d_Mo_mul_65 ?_
                    refine S_laload d_Mo_mul_66 a390 (vp_in_nI (by omega) (by omega)) (fun z69 => ?_)
                    refine ST.lift (fun _ _ k => T_aload_n (v := .ref 373) d_Mo_mul_67 rfl (Or.inr ⟨_, rfl⟩) k) ?_
                    refine S_getfield d_Mo_mul_68 fg_Mo_124 (w373 _) rfl ?_
                    refine ST.lift (fun _ _ k => T_bipush (v := nI 16) d_Mo_mul_71 (by decide) k) ?_
                    refine ST.lift (fun _ _ k => T_iload_n d_Mo_mul_73 rfl k) ?_
                    refine S_imulN d_Mo_mul_74 ?_
                    refine ST.lift (fun _ _ k => T_iload d_Mo_mul_75 rfl k) ?_
                    refine S_iaddN d_Mo_mul_77 ?_
                    refine S_laload d_Mo_mul_78 a390 (vp_in_nI (by omega) (by omega)) (fun z70 => ?_)
                    refine ST.lift (fun _ _ k => T_lmul d_Mo_mul_79 k) (S_anyl fun z71 => ?_)
                    refine ST.lift (fun _ _ k => T_ladd d_Mo_mul_80 k) (S_anyl fun z72 => ?_)
                    refine S_lastore d_Mo_mul_81 (by decide) a391 (vp_in_nI (by omega) (by omega)) ?_
                    refine S_iincN (a := k56) (b := 1) (L' := [(5, .int (nI (k56 + 1))), (4, .int (nI k8)), (0, .ref 373), (1, .int (nI d)), (2, .int (nI a)), (3, .int (nI b))]) d_Mo_mul_82 (by decide) rfl rfl rfl ?_
                    refine ST.lift (fun _ _ k => T_goto (tgt := 37) d_Mo_mul_85 rfl k) ?_
                    exact ih58 (16 - (k56 + 1)) (by omega) (k56 + 1)  rfl (by omega)
              exact lp59 _ 0  rfl (by omega)
        exact lp11 _ 0  rfl (by omega)
      · refine ST.lift (fun _ _ k => T_aload_n (v := .ref 373) d_Mo_mul_10 rfl (Or.inr ⟨_, rfl⟩) k) ?_
        refine S_getfield d_Mo_mul_11 fg_Mo_133 (w373 _) rfl ?_
        refine ST.lift (fun _ _ k => T_iload d_Mo_mul_14 rfl k) ?_
        refine ST.lift (fun _ _ k => T_lconst (v := 0) d_Mo_mul_16 (by decide) k) ?_
        refine S_lastore d_Mo_mul_17 (by decide) a391 (vp_in_nI (by omega) (by omega)) ?_
        refine S_iincN (a := k1) (b := 1) (L' := [(4, .int (nI (k1 + 1))), (0, .ref 373), (1, .int (nI d)), (2, .int (nI a)), (3, .int (nI b))]) d_Mo_mul_18 (by decide) rfl rfl rfl ?_
        refine ST.lift (fun _ _ k => T_goto (tgt := 3) d_Mo_mul_21 rfl k) ?_
        exact ih3 (31 - (k1 + 1)) (by omega) (k1 + 1)  rfl (by omega)
  exact lp4 _ 0  rfl (by omega)
set_option maxRecDepth 100000 in
set_option maxHeartbeats 4000000 in
theorem c_Mo_pack (G : GX) (v : Nat → Int32) (a : Nat) (b_a : a ≤ 63) : CS G mi_Mo_pack [.ref 373, .int (nI a)] v (fun r v' => r = none ∧ v' = v) := by
  refine CS.of (by decide) (Nat.le_of_ble_eq_true rfl) ?_
  generalize hQe : (fun (r : Option Value) (v' : Nat → Int32) => r = none ∧ v' = v) = Q
  have hQ : Q none v := by rw [← hQe]; exact ⟨rfl, rfl⟩
  clear hQe
  show ST G mi_Mo_pack 0 [(0, .ref 373), (1, .int (nI a))] [] v 0 0 Q
  refine ST.lift (fun _ _ k => T_iconst (v := nI 0) d_Mo_pack_0 (by decide) k) ?_
  refine ST.lift (fun _ _ k => T_istore_n (L' := [(2, .int (nI 0)), (0, .ref 373), (1, .int (nI a))]) d_Mo_pack_1 (by decide) rfl k) ?_
  have lp4 : ∀ (n2 k1 : Nat), 16 - k1 = n2 → 0 ≤ k1 ∧ k1 ≤ 0 + 16 → ST G mi_Mo_pack 2 [(2, .int (nI k1)), (0, .ref 373), (1, .int (nI a))] [] v 0 0 Q := by
    intro n2
    induction n2 using Nat.strongRecOn with
    | _ n2 ih3 =>
      intro k1 h5 h6
      refine ST.lift (fun _ _ k => T_iload_n d_Mo_pack_2 rfl k) ?_
      refine ST.lift (fun _ _ k => T_bipush (v := nI 16) d_Mo_pack_3 (by decide) k) ?_
      refine S_icmp_geN d_Mo_pack_5 rfl (by omega) (by omega) (fun c7 => ?_) (fun c7 => ?_)
      · refine ST.lift (fun _ _ k => T_aload_n (v := .ref 373) d_Mo_pack_35 rfl (Or.inr ⟨_, rfl⟩) k) ?_
        refine ST.lift (fun _ _ k => T_bipush (v := nI 63) d_Mo_pack_36 (by decide) k) ?_
        refine S_virtual (as := [.int (nI 63)]) (rest := []) (b := 373) d_Mo_pack_38 rfl (jw_Mo_settle.jo (by decide)) lm_Mo_130 ji_Mo_settle js_Mo_settle (w373 _) rfl rfl rfl (Nat.le_of_ble_eq_true rfl) (by decide) (by decide) (c_Mo_settle G v 63 (by omega)) (fun r v' hq => ?_)
        rw [hq.1, hq.2]
        clear hq r v'
        show ST G mi_Mo_pack 41 [(2, .int (nI k1)), (0, .ref 373), (1, .int (nI a))] [] v 0 0 _
        refine ST.lift (fun _ _ k => T_aload_n (v := .ref 373) d_Mo_pack_41 rfl (Or.inr ⟨_, rfl⟩) k) ?_
        refine ST.lift (fun _ _ k => T_bipush (v := nI 63) d_Mo_pack_42 (by decide) k) ?_
        refine S_virtual (as := [.int (nI 63)]) (rest := []) (b := 373) d_Mo_pack_44 rfl (jw_Mo_settle.jo (by decide)) lm_Mo_130 ji_Mo_settle js_Mo_settle (w373 _) rfl rfl rfl (Nat.le_of_ble_eq_true rfl) (by decide) (by decide) (c_Mo_settle G v 63 (by omega)) (fun r v' hq => ?_)
        rw [hq.1, hq.2]
        clear hq r v'
        show ST G mi_Mo_pack 47 [(2, .int (nI k1)), (0, .ref 373), (1, .int (nI a))] [] v 0 0 _
        refine ST.lift (fun _ _ k => T_aload_n (v := .ref 373) d_Mo_pack_47 rfl (Or.inr ⟨_, rfl⟩) k) ?_
        refine ST.lift (fun _ _ k => T_bipush (v := nI 63) d_Mo_pack_48 (by decide) k) ?_
        refine S_virtual (as := [.int (nI 63)]) (rest := []) (b := 373) d_Mo_pack_50 rfl (jw_Mo_settle.jo (by decide)) lm_Mo_130 ji_Mo_settle js_Mo_settle (w373 _) rfl rfl rfl (Nat.le_of_ble_eq_true rfl) (by decide) (by decide) (c_Mo_settle G v 63 (by omega)) (fun r v' hq => ?_)
        rw [hq.1, hq.2]
        clear hq r v'
        show ST G mi_Mo_pack 53 [(2, .int (nI k1)), (0, .ref 373), (1, .int (nI a))] [] v 0 0 _
        refine ST.lift (fun _ _ k => T_iconst (v := nI 0) d_Mo_pack_53 (by decide) k) ?_
        refine ST.lift (fun _ _ k => T_istore_n (L' := [(2, .int (nI 0)), (0, .ref 373), (1, .int (nI a))]) d_Mo_pack_54 (by decide) rfl k) ?_
        refine ST.lift (fun _ _ k => T_iload_n d_Mo_pack_55 rfl k) ?_
        refine ST.lift (fun _ _ k => T_bipush (v := nI 16) d_Mo_pack_56 (by decide) k) ?_
        refine S_icmp_geN d_Mo_pack_58 rfl (by omega) (by omega) (fun c => by first | exact absurd c (by omega) | exact c.elim | exact absurd c (by decide) | exact absurd (by assumption) c | exact absurd c (by assumption)) (fun _ => ?_)
        refine ST.lift (fun _ _ k => T_aload_n (v := .ref 373) d_Mo_pack_61 rfl (Or.inr ⟨_, rfl⟩) k) ?_
        refine S_getfield d_Mo_pack_62 fg_Mo_136 (w373 _) rfl ?_
        refine ST.lift (fun _ _ k => T_iload_n d_Mo_pack_65 rfl k) ?_
        refine ST.lift (fun _ _ k => T_aload_n (v := .ref 373) d_Mo_pack_66 rfl (Or.inr ⟨_, rfl⟩) k) ?_
        refine S_getfield d_Mo_pack_67 fg_Mo_124 (w373 _) rfl ?_
        refine ST.lift (fun _ _ k => T_sipush (v := nI 1008) d_Mo_pack_70 (by decide) k) ?_
        refine ST.lift (fun _ _ k => T_iload_n d_Mo_pack_73 rfl k) ?_
        refine S_iaddN d_Mo_pack_74 ?_
        refine S_topi (y := nI 1008) (by decide) ?_
        refine S_laload d_Mo_pack_75 a390 (vp_in_nI (by omega) (by omega)) (fun z9 => ?_)
        refine S_lastore d_Mo_pack_76 (by decide) a393 (vp_in_nI (by omega) (by omega)) ?_
        refine S_iincN (a := 0) (b := 1) (L' := [(2, .int (nI 1)), (0, .ref 373), (1, .int (nI a))]) d_Mo_pack_77 (by decide) rfl rfl rfl ?_
        refine ST.lift (fun _ _ k => T_goto (tgt := 55) d_Mo_pack_80 rfl k) ?_
        refine ST.lift (fun _ _ k => T_iload_n d_Mo_pack_55 rfl k) ?_
        refine ST.lift (fun _ _ k => T_bipush (v := nI 16) d_Mo_pack_56 (by decide) k) ?_
        refine S_icmp_geN d_Mo_pack_58 rfl (by omega) (by omega) (fun c => by first | exact absurd c (by omega) | exact c.elim | exact absurd c (by decide) | exact absurd (by assumption) c | exact absurd c (by assumption)) (fun _ => ?_)
        refine ST.lift (fun _ _ k => T_aload_n (v := .ref 373) d_Mo_pack_61 rfl (Or.inr ⟨_, rfl⟩) k) ?_
        refine S_getfield d_Mo_pack_62 fg_Mo_136 (w373 _) rfl ?_
        refine ST.lift (fun _ _ k => T_iload_n d_Mo_pack_65 rfl k) ?_
        refine ST.lift (fun _ _ k => T_aload_n (v := .ref 373) d_Mo_pack_66 rfl (Or.inr ⟨_, rfl⟩) k) ?_
        refine S_getfield d_Mo_pack_67 fg_Mo_124 (w373 _) rfl ?_
        refine ST.lift (fun _ _ k => T_sipush (v := nI 1008) d_Mo_pack_70 (by decide) k) ?_
        refine ST.lift (fun _ _ k => T_iload_n d_Mo_pack_73 rfl k) ?_
        refine S_iaddN d_Mo_pack_74 ?_
        refine S_topi (y := nI 1009) (by decide) ?_
        refine S_laload d_Mo_pack_75 a390 (vp_in_nI (by omega) (by omega)) (fun z10 => ?_)
        refine S_lastore d_Mo_pack_76 (by decide) a393 (vp_in_nI (by omega) (by omega)) ?_
        refine S_iincN (a := 1) (b := 1) (L' := [(2, .int (nI 2)), (0, .ref 373), (1, .int (nI a))]) d_Mo_pack_77 (by decide) rfl rfl rfl ?_
        refine ST.lift (fun _ _ k => T_goto (tgt := 55) d_Mo_pack_80 rfl k) ?_
        refine ST.lift (fun _ _ k => T_iload_n d_Mo_pack_55 rfl k) ?_
        refine ST.lift (fun _ _ k => T_bipush (v := nI 16) d_Mo_pack_56 (by decide) k) ?_
        refine S_icmp_geN d_Mo_pack_58 rfl (by omega) (by omega) (fun c => by first | exact absurd c (by omega) | exact c.elim | exact absurd c (by decide) | exact absurd (by assumption) c | exact absurd c (by assumption)) (fun _ => ?_)
        refine ST.lift (fun _ _ k => T_aload_n (v := .ref 373) d_Mo_pack_61 rfl (Or.inr ⟨_, rfl⟩) k) ?_
        refine S_getfield d_Mo_pack_62 fg_Mo_136 (w373 _) rfl ?_
        refine ST.lift (fun _ _ k => T_iload_n d_Mo_pack_65 rfl k) ?_
        refine ST.lift (fun _ _ k => T_aload_n (v := .ref 373) d_Mo_pack_66 rfl (Or.inr ⟨_, rfl⟩) k) ?_
        refine S_getfield d_Mo_pack_67 fg_Mo_124 (w373 _) rfl ?_
        refine ST.lift (fun _ _ k => T_sipush (v := nI 1008) d_Mo_pack_70 (by decide) k) ?_
        refine ST.lift (fun _ _ k => T_iload_n d_Mo_pack_73 rfl k) ?_
        refine S_iaddN d_Mo_pack_74 ?_
        refine S_topi (y := nI 1010) (by decide) ?_
        refine S_laload d_Mo_pack_75 a390 (vp_in_nI (by omega) (by omega)) (fun z11 => ?_)
        refine S_lastore d_Mo_pack_76 (by decide) a393 (vp_in_nI (by omega) (by omega)) ?_
        refine S_iincN (a := 2) (b := 1) (L' := [(2, .int (nI 3)), (0, .ref 373), (1, .int (nI a))]) d_Mo_pack_77 (by decide) rfl rfl rfl ?_
        refine ST.lift (fun _ _ k => T_goto (tgt := 55) d_Mo_pack_80 rfl k) ?_
        refine ST.lift (fun _ _ k => T_iload_n d_Mo_pack_55 rfl k) ?_
        refine ST.lift (fun _ _ k => T_bipush (v := nI 16) d_Mo_pack_56 (by decide) k) ?_
        refine S_icmp_geN d_Mo_pack_58 rfl (by omega) (by omega) (fun c => by first | exact absurd c (by omega) | exact c.elim | exact absurd c (by decide) | exact absurd (by assumption) c | exact absurd c (by assumption)) (fun _ => ?_)
        refine ST.lift (fun _ _ k => T_aload_n (v := .ref 373) d_Mo_pack_61 rfl (Or.inr ⟨_, rfl⟩) k) ?_
        refine S_getfield d_Mo_pack_62 fg_Mo_136 (w373 _) rfl ?_
        refine ST.lift (fun _ _ k => T_iload_n d_Mo_pack_65 rfl k) ?_
        refine ST.lift (fun _ _ k => T_aload_n (v := .ref 373) d_Mo_pack_66 rfl (Or.inr ⟨_, rfl⟩) k) ?_
        refine S_getfield d_Mo_pack_67 fg_Mo_124 (w373 _) rfl ?_
        refine ST.lift (fun _ _ k => T_sipush (v := nI 1008) d_Mo_pack_70 (by decide) k) ?_
        refine ST.lift (fun _ _ k => T_iload_n d_Mo_pack_73 rfl k) ?_
        refine S_iaddN d_Mo_pack_74 ?_
        refine S_topi (y := nI 1011) (by decide) ?_
        refine S_laload d_Mo_pack_75 a390 (vp_in_nI (by omega) (by omega)) (fun z12 => ?_)
        refine S_lastore d_Mo_pack_76 (by decide) a393 (vp_in_nI (by omega) (by omega)) ?_
        refine S_iincN (a := 3) (b := 1) (L' := [(2, .int (nI 4)), (0, .ref 373), (1, .int (nI a))]) d_Mo_pack_77 (by decide) rfl rfl rfl ?_
        refine ST.lift (fun _ _ k => T_goto (tgt := 55) d_Mo_pack_80 rfl k) ?_
        refine ST.lift (fun _ _ k => T_iload_n d_Mo_pack_55 rfl k) ?_
        refine ST.lift (fun _ _ k => T_bipush (v := nI 16) d_Mo_pack_56 (by decide) k) ?_
        refine S_icmp_geN d_Mo_pack_58 rfl (by omega) (by omega) (fun c => by first | exact absurd c (by omega) | exact c.elim | exact absurd c (by decide) | exact absurd (by assumption) c | exact absurd c (by assumption)) (fun _ => ?_)
        refine ST.lift (fun _ _ k => T_aload_n (v := .ref 373) d_Mo_pack_61 rfl (Or.inr ⟨_, rfl⟩) k) ?_
        refine S_getfield d_Mo_pack_62 fg_Mo_136 (w373 _) rfl ?_
        refine ST.lift (fun _ _ k => T_iload_n d_Mo_pack_65 rfl k) ?_
        refine ST.lift (fun _ _ k => T_aload_n (v := .ref 373) d_Mo_pack_66 rfl (Or.inr ⟨_, rfl⟩) k) ?_
        refine S_getfield d_Mo_pack_67 fg_Mo_124 (w373 _) rfl ?_
        refine ST.lift (fun _ _ k => T_sipush (v := nI 1008) d_Mo_pack_70 (by decide) k) ?_
        refine ST.lift (fun _ _ k => T_iload_n d_Mo_pack_73 rfl k) ?_
        refine S_iaddN d_Mo_pack_74 ?_
        refine S_topi (y := nI 1012) (by decide) ?_
        refine S_laload d_Mo_pack_75 a390 (vp_in_nI (by omega) (by omega)) (fun z13 => ?_)
        refine S_lastore d_Mo_pack_76 (by decide) a393 (vp_in_nI (by omega) (by omega)) ?_
        refine S_iincN (a := 4) (b := 1) (L' := [(2, .int (nI 5)), (0, .ref 373), (1, .int (nI a))]) d_Mo_pack_77 (by decide) rfl rfl rfl ?_
        refine ST.lift (fun _ _ k => T_goto (tgt := 55) d_Mo_pack_80 rfl k) ?_
        refine ST.lift (fun _ _ k => T_iload_n d_Mo_pack_55 rfl k) ?_
        refine ST.lift (fun _ _ k => T_bipush (v := nI 16) d_Mo_pack_56 (by decide) k) ?_
        refine S_icmp_geN d_Mo_pack_58 rfl (by omega) (by omega) (fun c => by first | exact absurd c (by omega) | exact c.elim | exact absurd c (by decide) | exact absurd (by assumption) c | exact absurd c (by assumption)) (fun _ => ?_)
        refine ST.lift (fun _ _ k => T_aload_n (v := .ref 373) d_Mo_pack_61 rfl (Or.inr ⟨_, rfl⟩) k) ?_
        refine S_getfield d_Mo_pack_62 fg_Mo_136 (w373 _) rfl ?_
        refine ST.lift (fun _ _ k => T_iload_n d_Mo_pack_65 rfl k) ?_
        refine ST.lift (fun _ _ k => T_aload_n (v := .ref 373) d_Mo_pack_66 rfl (Or.inr ⟨_, rfl⟩) k) ?_
        refine S_getfield d_Mo_pack_67 fg_Mo_124 (w373 _) rfl ?_
        refine ST.lift (fun _ _ k => T_sipush (v := nI 1008) d_Mo_pack_70 (by decide) k) ?_
        refine ST.lift (fun _ _ k => T_iload_n d_Mo_pack_73 rfl k) ?_
        refine S_iaddN d_Mo_pack_74 ?_
        refine S_topi (y := nI 1013) (by decide) ?_
        refine S_laload d_Mo_pack_75 a390 (vp_in_nI (by omega) (by omega)) (fun z14 => ?_)
        refine S_lastore d_Mo_pack_76 (by decide) a393 (vp_in_nI (by omega) (by omega)) ?_
        refine S_iincN (a := 5) (b := 1) (L' := [(2, .int (nI 6)), (0, .ref 373), (1, .int (nI a))]) d_Mo_pack_77 (by decide) rfl rfl rfl ?_
        refine ST.lift (fun _ _ k => T_goto (tgt := 55) d_Mo_pack_80 rfl k) ?_
        refine ST.lift (fun _ _ k => T_iload_n d_Mo_pack_55 rfl k) ?_
        refine ST.lift (fun _ _ k => T_bipush (v := nI 16) d_Mo_pack_56 (by decide) k) ?_
        refine S_icmp_geN d_Mo_pack_58 rfl (by omega) (by omega) (fun c => by first | exact absurd c (by omega) | exact c.elim | exact absurd c (by decide) | exact absurd (by assumption) c | exact absurd c (by assumption)) (fun _ => ?_)
        refine ST.lift (fun _ _ k => T_aload_n (v := .ref 373) d_Mo_pack_61 rfl (Or.inr ⟨_, rfl⟩) k) ?_
        refine S_getfield d_Mo_pack_62 fg_Mo_136 (w373 _) rfl ?_
        refine ST.lift (fun _ _ k => T_iload_n d_Mo_pack_65 rfl k) ?_
        refine ST.lift (fun _ _ k => T_aload_n (v := .ref 373) d_Mo_pack_66 rfl (Or.inr ⟨_, rfl⟩) k) ?_
        refine S_getfield d_Mo_pack_67 fg_Mo_124 (w373 _) rfl ?_
        refine ST.lift (fun _ _ k => T_sipush (v := nI 1008) d_Mo_pack_70 (by decide) k) ?_
        refine ST.lift (fun _ _ k => T_iload_n d_Mo_pack_73 rfl k) ?_
        refine S_iaddN d_Mo_pack_74 ?_
        refine S_topi (y := nI 1014) (by decide) ?_
        refine S_laload d_Mo_pack_75 a390 (vp_in_nI (by omega) (by omega)) (fun z15 => ?_)
        refine S_lastore d_Mo_pack_76 (by decide) a393 (vp_in_nI (by omega) (by omega)) ?_
        refine S_iincN (a := 6) (b := 1) (L' := [(2, .int (nI 7)), (0, .ref 373), (1, .int (nI a))]) d_Mo_pack_77 (by decide) rfl rfl rfl ?_
        refine ST.lift (fun _ _ k => T_goto (tgt := 55) d_Mo_pack_80 rfl k) ?_
        refine ST.lift (fun _ _ k => T_iload_n d_Mo_pack_55 rfl k) ?_
        refine ST.lift (fun _ _ k => T_bipush (v := nI 16) d_Mo_pack_56 (by decide) k) ?_
        refine S_icmp_geN d_Mo_pack_58 rfl (by omega) (by omega) (fun c => by first | exact absurd c (by omega) | exact c.elim | exact absurd c (by decide) | exact absurd (by assumption) c | exact absurd c (by assumption)) (fun _ => ?_)
        refine ST.lift (fun _ _ k => T_aload_n (v := .ref 373) d_Mo_pack_61 rfl (Or.inr ⟨_, rfl⟩) k) ?_
        refine S_getfield d_Mo_pack_62 fg_Mo_136 (w373 _) rfl ?_
        refine ST.lift (fun _ _ k => T_iload_n d_Mo_pack_65 rfl k) ?_
        refine ST.lift (fun _ _ k => T_aload_n (v := .ref 373) d_Mo_pack_66 rfl (Or.inr ⟨_, rfl⟩) k) ?_
        refine S_getfield d_Mo_pack_67 fg_Mo_124 (w373 _) rfl ?_
        refine ST.lift (fun _ _ k => T_sipush (v := nI 1008) d_Mo_pack_70 (by decide) k) ?_
        refine ST.lift (fun _ _ k => T_iload_n d_Mo_pack_73 rfl k) ?_
        refine S_iaddN d_Mo_pack_74 ?_
        refine S_topi (y := nI 1015) (by decide) ?_
        refine S_laload d_Mo_pack_75 a390 (vp_in_nI (by omega) (by omega)) (fun z16 => ?_)
        refine S_lastore d_Mo_pack_76 (by decide) a393 (vp_in_nI (by omega) (by omega)) ?_
        refine S_iincN (a := 7) (b := 1) (L' := [(2, .int (nI 8)), (0, .ref 373), (1, .int (nI a))]) d_Mo_pack_77 (by decide) rfl rfl rfl ?_
        refine ST.lift (fun _ _ k => T_goto (tgt := 55) d_Mo_pack_80 rfl k) ?_
        refine ST.lift (fun _ _ k => T_iload_n d_Mo_pack_55 rfl k) ?_
        refine ST.lift (fun _ _ k => T_bipush (v := nI 16) d_Mo_pack_56 (by decide) k) ?_
        refine S_icmp_geN d_Mo_pack_58 rfl (by omega) (by omega) (fun c => by first | exact absurd c (by omega) | exact c.elim | exact absurd c (by decide) | exact absurd (by assumption) c | exact absurd c (by assumption)) (fun _ => ?_)
        refine ST.lift (fun _ _ k => T_aload_n (v := .ref 373) d_Mo_pack_61 rfl (Or.inr ⟨_, rfl⟩) k) ?_
        refine S_getfield d_Mo_pack_62 fg_Mo_136 (w373 _) rfl ?_
        refine ST.lift (fun _ _ k => T_iload_n d_Mo_pack_65 rfl k) ?_
        refine ST.lift (fun _ _ k => T_aload_n (v := .ref 373) d_Mo_pack_66 rfl (Or.inr ⟨_, rfl⟩) k) ?_
        refine S_getfield d_Mo_pack_67 fg_Mo_124 (w373 _) rfl ?_
        refine ST.lift (fun _ _ k => T_sipush (v := nI 1008) d_Mo_pack_70 (by decide) k) ?_
        refine ST.lift (fun _ _ k => T_iload_n d_Mo_pack_73 rfl k) ?_
        refine S_iaddN d_Mo_pack_74 ?_
        refine S_topi (y := nI 1016) (by decide) ?_
        refine S_laload d_Mo_pack_75 a390 (vp_in_nI (by omega) (by omega)) (fun z17 => ?_)
        refine S_lastore d_Mo_pack_76 (by decide) a393 (vp_in_nI (by omega) (by omega)) ?_
        refine S_iincN (a := 8) (b := 1) (L' := [(2, .int (nI 9)), (0, .ref 373), (1, .int (nI a))]) d_Mo_pack_77 (by decide) rfl rfl rfl ?_
        refine ST.lift (fun _ _ k => T_goto (tgt := 55) d_Mo_pack_80 rfl k) ?_
        refine ST.lift (fun _ _ k => T_iload_n d_Mo_pack_55 rfl k) ?_
        refine ST.lift (fun _ _ k => T_bipush (v := nI 16) d_Mo_pack_56 (by decide) k) ?_
        refine S_icmp_geN d_Mo_pack_58 rfl (by omega) (by omega) (fun c => by first | exact absurd c (by omega) | exact c.elim | exact absurd c (by decide) | exact absurd (by assumption) c | exact absurd c (by assumption)) (fun _ => ?_)
        refine ST.lift (fun _ _ k => T_aload_n (v := .ref 373) d_Mo_pack_61 rfl (Or.inr ⟨_, rfl⟩) k) ?_
        refine S_getfield d_Mo_pack_62 fg_Mo_136 (w373 _) rfl ?_
        refine ST.lift (fun _ _ k => T_iload_n d_Mo_pack_65 rfl k) ?_
        refine ST.lift (fun _ _ k => T_aload_n (v := .ref 373) d_Mo_pack_66 rfl (Or.inr ⟨_, rfl⟩) k) ?_
        refine S_getfield d_Mo_pack_67 fg_Mo_124 (w373 _) rfl ?_
        refine ST.lift (fun _ _ k => T_sipush (v := nI 1008) d_Mo_pack_70 (by decide) k) ?_
        refine ST.lift (fun _ _ k => T_iload_n d_Mo_pack_73 rfl k) ?_
        refine S_iaddN d_Mo_pack_74 ?_
        refine S_topi (y := nI 1017) (by decide) ?_
        refine S_laload d_Mo_pack_75 a390 (vp_in_nI (by omega) (by omega)) (fun z18 => ?_)
        refine S_lastore d_Mo_pack_76 (by decide) a393 (vp_in_nI (by omega) (by omega)) ?_
        refine S_iincN (a := 9) (b := 1) (L' := [(2, .int (nI 10)), (0, .ref 373), (1, .int (nI a))]) d_Mo_pack_77 (by decide) rfl rfl rfl ?_
        refine ST.lift (fun _ _ k => T_goto (tgt := 55) d_Mo_pack_80 rfl k) ?_
        refine ST.lift (fun _ _ k => T_iload_n d_Mo_pack_55 rfl k) ?_
        refine ST.lift (fun _ _ k => T_bipush (v := nI 16) d_Mo_pack_56 (by decide) k) ?_
        refine S_icmp_geN d_Mo_pack_58 rfl (by omega) (by omega) (fun c => by first | exact absurd c (by omega) | exact c.elim | exact absurd c (by decide) | exact absurd (by assumption) c | exact absurd c (by assumption)) (fun _ => ?_)
        refine ST.lift (fun _ _ k => T_aload_n (v := .ref 373) d_Mo_pack_61 rfl (Or.inr ⟨_, rfl⟩) k) ?_
        refine S_getfield d_Mo_pack_62 fg_Mo_136 (w373 _) rfl ?_
        refine ST.lift (fun _ _ k => T_iload_n d_Mo_pack_65 rfl k) ?_
        refine ST.lift (fun _ _ k => T_aload_n (v := .ref 373) d_Mo_pack_66 rfl (Or.inr ⟨_, rfl⟩) k) ?_
        refine S_getfield d_Mo_pack_67 fg_Mo_124 (w373 _) rfl ?_
        refine ST.lift (fun _ _ k => T_sipush (v := nI 1008) d_Mo_pack_70 (by decide) k) ?_
        refine ST.lift (fun _ _ k => T_iload_n d_Mo_pack_73 rfl k) ?_
        refine S_iaddN d_Mo_pack_74 ?_
        refine S_topi (y := nI 1018) (by decide) ?_
        refine S_laload d_Mo_pack_75 a390 (vp_in_nI (by omega) (by omega)) (fun z19 => ?_)
        refine S_lastore d_Mo_pack_76 (by decide) a393 (vp_in_nI (by omega) (by omega)) ?_
        refine S_iincN (a := 10) (b := 1) (L' := [(2, .int (nI 11)), (0, .ref 373), (1, .int (nI a))]) d_Mo_pack_77 (by decide) rfl rfl rfl ?_
        refine ST.lift (fun _ _ k => T_goto (tgt := 55) d_Mo_pack_80 rfl k) ?_
        refine ST.lift (fun _ _ k => T_iload_n d_Mo_pack_55 rfl k) ?_
        refine ST.lift (fun _ _ k => T_bipush (v := nI 16) d_Mo_pack_56 (by decide) k) ?_
        refine S_icmp_geN d_Mo_pack_58 rfl (by omega) (by omega) (fun c => by first | exact absurd c (by omega) | exact c.elim | exact absurd c (by decide) | exact absurd (by assumption) c | exact absurd c (by assumption)) (fun _ => ?_)
        refine ST.lift (fun _ _ k => T_aload_n (v := .ref 373) d_Mo_pack_61 rfl (Or.inr ⟨_, rfl⟩) k) ?_
        refine S_getfield d_Mo_pack_62 fg_Mo_136 (w373 _) rfl ?_
        refine ST.lift (fun _ _ k => T_iload_n d_Mo_pack_65 rfl k) ?_
        refine ST.lift (fun _ _ k => T_aload_n (v := .ref 373) d_Mo_pack_66 rfl (Or.inr ⟨_, rfl⟩) k) ?_
        refine S_getfield d_Mo_pack_67 fg_Mo_124 (w373 _) rfl ?_
        refine ST.lift (fun _ _ k => T_sipush (v := nI 1008) d_Mo_pack_70 (by decide) k) ?_
        refine ST.lift (fun _ _ k => T_iload_n d_Mo_pack_73 rfl k) ?_
        refine S_iaddN d_Mo_pack_74 ?_
        refine S_topi (y := nI 1019) (by decide) ?_
        refine S_laload d_Mo_pack_75 a390 (vp_in_nI (by omega) (by omega)) (fun z20 => ?_)
        refine S_lastore d_Mo_pack_76 (by decide) a393 (vp_in_nI (by omega) (by omega)) ?_
        refine S_iincN (a := 11) (b := 1) (L' := [(2, .int (nI 12)), (0, .ref 373), (1, .int (nI a))]) d_Mo_pack_77 (by decide) rfl rfl rfl ?_
        refine ST.lift (fun _ _ k => T_goto (tgt := 55) d_Mo_pack_80 rfl k) ?_
        refine ST.lift (fun _ _ k => T_iload_n d_Mo_pack_55 rfl k) ?_
        refine ST.lift (fun _ _ k => T_bipush (v := nI 16) d_Mo_pack_56 (by decide) k) ?_
        refine S_icmp_geN d_Mo_pack_58 rfl (by omega) (by omega) (fun c => by first | exact absurd c (by omega) | exact c.elim | exact absurd c (by decide) | exact absurd (by assumption) c | exact absurd c (by assumption)) (fun _ => ?_)
        refine ST.lift (fun _ _ k => T_aload_n (v := .ref 373) d_Mo_pack_61 rfl (Or.inr ⟨_, rfl⟩) k) ?_
        refine S_getfield d_Mo_pack_62 fg_Mo_136 (w373 _) rfl ?_
        refine ST.lift (fun _ _ k => T_iload_n d_Mo_pack_65 rfl k) ?_
        refine ST.lift (fun _ _ k => T_aload_n (v := .ref 373) d_Mo_pack_66 rfl (Or.inr ⟨_, rfl⟩) k) ?_
        refine S_getfield d_Mo_pack_67 fg_Mo_124 (w373 _) rfl ?_
        refine ST.lift (fun _ _ k => T_sipush (v := nI 1008) d_Mo_pack_70 (by decide) k) ?_
        refine ST.lift (fun _ _ k => T_iload_n d_Mo_pack_73 rfl k) ?_
        refine S_iaddN d_Mo_pack_74 ?_
        refine S_topi (y := nI 1020) (by decide) ?_
        refine S_laload d_Mo_pack_75 a390 (vp_in_nI (by omega) (by omega)) (fun z21 => ?_)
        refine S_lastore d_Mo_pack_76 (by decide) a393 (vp_in_nI (by omega) (by omega)) ?_
        refine S_iincN (a := 12) (b := 1) (L' := [(2, .int (nI 13)), (0, .ref 373), (1, .int (nI a))]) d_Mo_pack_77 (by decide) rfl rfl rfl ?_
        refine ST.lift (fun _ _ k => T_goto (tgt := 55) d_Mo_pack_80 rfl k) ?_
        refine ST.lift (fun _ _ k => T_iload_n d_Mo_pack_55 rfl k) ?_
        refine ST.lift (fun _ _ k => T_bipush (v := nI 16) d_Mo_pack_56 (by decide) k) ?_
        refine S_icmp_geN d_Mo_pack_58 rfl (by omega) (by omega) (fun c => by first | exact absurd c (by omega) | exact c.elim | exact absurd c (by decide) | exact absurd (by assumption) c | exact absurd c (by assumption)) (fun _ => ?_)
        refine ST.lift (fun _ _ k => T_aload_n (v := .ref 373) d_Mo_pack_61 rfl (Or.inr ⟨_, rfl⟩) k) ?_
        refine S_getfield d_Mo_pack_62 fg_Mo_136 (w373 _) rfl ?_
        refine ST.lift (fun _ _ k => T_iload_n d_Mo_pack_65 rfl k) ?_
        refine ST.lift (fun _ _ k => T_aload_n (v := .ref 373) d_Mo_pack_66 rfl (Or.inr ⟨_, rfl⟩) k) ?_
        refine S_getfield d_Mo_pack_67 fg_Mo_124 (w373 _) rfl ?_
        refine ST.lift (fun _ _ k => T_sipush (v := nI 1008) d_Mo_pack_70 (by decide) k) ?_
        refine ST.lift (fun _ _ k => T_iload_n d_Mo_pack_73 rfl k) ?_
        refine S_iaddN d_Mo_pack_74 ?_
        refine S_topi (y := nI 1021) (by decide) ?_
        refine S_laload d_Mo_pack_75 a390 (vp_in_nI (by omega) (by omega)) (fun z22 => ?_)
        refine S_lastore d_Mo_pack_76 (by decide) a393 (vp_in_nI (by omega) (by omega)) ?_
        refine S_iincN (a := 13) (b := 1) (L' := [(2, .int (nI 14)), (0, .ref 373), (1, .int (nI a))]) d_Mo_pack_77 (by decide) rfl rfl rfl ?_
        refine ST.lift (fun _ _ k => T_goto (tgt := 55) d_Mo_pack_80 rfl k) ?_
        refine ST.lift (fun _ _ k => T_iload_n d_Mo_pack_55 rfl k) ?_
        refine ST.lift (fun _ _ k => T_bipush (v := nI 16) d_Mo_pack_56 (by decide) k) ?_
        refine S_icmp_geN d_Mo_pack_58 rfl (by omega) (by omega) (fun c => by first | exact absurd c (by omega) | exact c.elim | exact absurd c (by decide) | exact absurd (by assumption) c | exact absurd c (by assumption)) (fun _ => ?_)
        refine ST.lift (fun _ _ k => T_aload_n (v := .ref 373) d_Mo_pack_61 rfl (Or.inr ⟨_, rfl⟩) k) ?_
        refine S_getfield d_Mo_pack_62 fg_Mo_136 (w373 _) rfl ?_
        refine ST.lift (fun _ _ k => T_iload_n d_Mo_pack_65 rfl k) ?_
        refine ST.lift (fun _ _ k => T_aload_n (v := .ref 373) d_Mo_pack_66 rfl (Or.inr ⟨_, rfl⟩) k) ?_
        refine S_getfield d_Mo_pack_67 fg_Mo_124 (w373 _) rfl ?_
        refine ST.lift (fun _ _ k => T_sipush (v := nI 1008) d_Mo_pack_70 (by decide) k) ?_
        refine ST.lift (fun _ _ k => T_iload_n d_Mo_pack_73 rfl k) ?_
        refine S_iaddN d_Mo_pack_74 ?_
        refine S_topi (y := nI 1022) (by decide) ?_
        refine S_laload d_Mo_pack_75 a390 (vp_in_nI (by omega) (by omega)) (fun z23 => ?_)
        refine S_lastore d_Mo_pack_76 (by decide) a393 (vp_in_nI (by omega) (by omega)) ?_
        refine S_iincN (a := 14) (b := 1) (L' := [(2, .int (nI 15)), (0, .ref 373), (1, .int (nI a))]) d_Mo_pack_77 (by decide) rfl rfl rfl ?_
        refine ST.lift (fun _ _ k => T_goto (tgt := 55) d_Mo_pack_80 rfl k) ?_
        refine ST.lift (fun _ _ k => T_iload_n d_Mo_pack_55 rfl k) ?_
        refine ST.lift (fun _ _ k => T_bipush (v := nI 16) d_Mo_pack_56 (by decide) k) ?_
        refine S_icmp_geN d_Mo_pack_58 rfl (by omega) (by omega) (fun c => by first | exact absurd c (by omega) | exact c.elim | exact absurd c (by decide) | exact absurd (by assumption) c | exact absurd c (by assumption)) (fun _ => ?_)
        refine ST.lift (fun _ _ k => T_aload_n (v := .ref 373) d_Mo_pack_61 rfl (Or.inr ⟨_, rfl⟩) k) ?_
        refine S_getfield d_Mo_pack_62 fg_Mo_136 (w373 _) rfl ?_
        refine ST.lift (fun _ _ k => T_iload_n d_Mo_pack_65 rfl k) ?_
        refine ST.lift (fun _ _ k => T_aload_n (v := .ref 373) d_Mo_pack_66 rfl (Or.inr ⟨_, rfl⟩) k) ?_
        refine S_getfield d_Mo_pack_67 fg_Mo_124 (w373 _) rfl ?_
        refine ST.lift (fun _ _ k => T_sipush (v := nI 1008) d_Mo_pack_70 (by decide) k) ?_
        refine ST.lift (fun _ _ k => T_iload_n d_Mo_pack_73 rfl k) ?_
        refine S_iaddN d_Mo_pack_74 ?_
        refine S_topi (y := nI 1023) (by decide) ?_
        refine S_laload d_Mo_pack_75 a390 (vp_in_nI (by omega) (by omega)) (fun z24 => ?_)
        refine S_lastore d_Mo_pack_76 (by decide) a393 (vp_in_nI (by omega) (by omega)) ?_
        refine S_iincN (a := 15) (b := 1) (L' := [(2, .int (nI 16)), (0, .ref 373), (1, .int (nI a))]) d_Mo_pack_77 (by decide) rfl rfl rfl ?_
        refine ST.lift (fun _ _ k => T_goto (tgt := 55) d_Mo_pack_80 rfl k) ?_
        refine ST.lift (fun _ _ k => T_iload_n d_Mo_pack_55 rfl k) ?_
        refine ST.lift (fun _ _ k => T_bipush (v := nI 16) d_Mo_pack_56 (by decide) k) ?_
        refine S_icmp_geN d_Mo_pack_58 rfl (by omega) (by omega) (fun _ => ?_) (fun c => by first | exact absurd c (by omega) | exact c.elim | exact absurd c (by decide) | exact absurd (by assumption) c | exact absurd c (by assumption))
        refine ST.lift (fun _ _ k => T_iconst (v := nI 0) d_Mo_pack_83 (by decide) k) ?_
        refine ST.lift (fun _ _ k => T_istore_n (L' := [(2, .int (nI 0)), (0, .ref 373), (1, .int (nI a))]) d_Mo_pack_84 (by decide) rfl k) ?_
        refine ST.lift (fun _ _ k => T_iload_n d_Mo_pack_85 rfl k) ?_
        refine ST.lift (fun _ _ k => T_iconst (v := nI 3) d_Mo_pack_86 (by decide) k) ?_
        refine S_icmp_geN d_Mo_pack_87 rfl (by omega) (by omega) (fun c => by first | exact absurd c (by omega) | exact c.elim | exact absurd c (by decide) | exact absurd (by assumption) c | exact absurd c (by assumption)) (fun _ => ?_)
        refine ST.lift (fun _ _ k => T_lconst (v := 0) d_Mo_pack_90 (by decide) k) ?_
        refine ST.lift (fun _ _ k => T_lstore_n (L' := [(3, .long 0), (2, .int (nI 0)), (0, .ref 373), (1, .int (nI a))]) d_Mo_pack_91 (by decide) rfl k) ?_
        refine ST.lift (fun _ _ k => T_iconst (v := nI 0) d_Mo_pack_92 (by decide) k) ?_
        refine ST.lift (fun _ _ k => T_istore (L' := [(5, .int (nI 0)), (3, .long 0), (2, .int (nI 0)), (0, .ref 373), (1, .int (nI a))]) d_Mo_pack_93 (by decide) rfl k) ?_
        have lp29 : ∀ (n27 k25 : Nat) (z26 : Int64), 16 - k25 = n27 → 0 ≤ k25 ∧ k25 ≤ 0 + 16 → ST G mi_Mo_pack 95 [(5, .int (nI k25)), (3, .long z26), (2, .int (nI 0)), (0, .ref 373), (1, .int (nI a))] [] v 0 0 Q := by
          intro n27
          induction n27 using Nat.strongRecOn with
          | _ n27 ih28 =>
            intro k25 z26 h30 h31
            refine ST.lift (fun _ _ k => T_iload d_Mo_pack_95 rfl k) ?_
            refine ST.lift (fun _ _ k => T_bipush (v := nI 16) d_Mo_pack_97 (by decide) k) ?_
            refine S_icmp_geN d_Mo_pack_99 rfl (by omega) (by omega) (fun c32 => ?_) (fun c32 => ?_)
            · refine ST.lift (fun _ _ k => T_iconst (v := nI 0) d_Mo_pack_173 (by decide) k) ?_
              refine ST.lift (fun _ _ k => T_istore (L' := [(5, .int (nI 0)), (3, .long z26), (2, .int (nI 0)), (0, .ref 373), (1, .int (nI a))]) d_Mo_pack_174 (by decide) rfl k) ?_
              have lp49 : ∀ (n47 k46 : Nat), 16 - k46 = n47 → 0 ≤ k46 ∧ k46 ≤ 0 + 16 → ST G mi_Mo_pack 176 [(5, .int (nI k46)), (3, .long z26), (2, .int (nI 0)), (0, .ref 373), (1, .int (nI a))] [] v 0 0 Q := by
                intro n47
                induction n47 using Nat.strongRecOn with
                | _ n47 ih48 =>
                  intro k46 h50 h51
                  refine ST.lift (fun _ _ k => T_iload d_Mo_pack_176 rfl k) ?_
                  refine ST.lift (fun _ _ k => T_bipush (v := nI 16) d_Mo_pack_178 (by decide) k) ?_
                  have J209_56 : ST G mi_Mo_pack 209 [(5, .int (nI k46)), (3, .long z26), (2, .int (nI 0)), (0, .ref 373), (1, .int (nI a))] [] v 0 0 Q := by
                    refine S_iincN (a := 0) (b := 1) (L' := [(2, .int (nI 1)), (5, .int (nI k46)), (3, .long z26), (0, .ref 373), (1, .int (nI a))]) d_Mo_pack_209 (by decide) rfl rfl rfl ?_
                    refine ST.lift (fun _ _ k => T_goto (tgt := 85) d_Mo_pack_212 rfl k) ?_
                    refine ST.lift (fun _ _ k => T_iload_n d_Mo_pack_85 rfl k) ?_
                    refine ST.lift (fun _ _ k => T_iconst (v := nI 3) d_Mo_pack_86 (by decide) k) ?_
                    refine S_icmp_geN d_Mo_pack_87 rfl (by omega) (by omega) (fun c => by first | exact absurd c (by omega) | exact c.elim | exact absurd c (by decide) | exact absurd (by assumption) c | exact absurd c (by assumption)) (fun _ => ?_)
                    refine ST.lift (fun _ _ k => T_lconst (v := 0) d_Mo_pack_90 (by decide) k) ?_
                    refine ST.lift (fun _ _ k => T_lstore_n (L' := [(3, .long 0), (2, .int (nI 1)), (5, .int (nI k46)), (0, .ref 373), (1, .int (nI a))]) d_Mo_pack_91 (by decide) rfl k) ?_
                    refine ST.lift (fun _ _ k => T_iconst (v := nI 0) d_Mo_pack_92 (by decide) k) ?_
                    refine ST.lift (fun _ _ k => T_istore (L' := [(5, .int (nI 0)), (3, .long 0), (2, .int (nI 1)), (0, .ref 373), (1, .int (nI a))]) d_Mo_pack_93 (by decide) rfl k) ?_
                    have lp61 : ∀ (n59 k57 : Nat) (z58 : Int64), 16 - k57 = n59 → 0 ≤ k57 ∧ k57 ≤ 0 + 16 → ST G mi_Mo_pack 95 [(5, .int (nI k57)), (3, .long z58), (2, .int (nI 1)), (0, .ref 373), (1, .int (nI a))] [] v 0 0 Q := by
                      intro n59
                      induction n59 using Nat.strongRecOn with
                      | _ n59 ih60 =>
                        intro k57 z58 h62 h63
                        refine ST.lift (fun _ _ k => T_iload d_Mo_pack_95 rfl k) ?_
                        refine ST.lift (fun _ _ k => T_bipush (v := nI 16) d_Mo_pack_97 (by decide) k) ?_
                        refine S_icmp_geN d_Mo_pack_99 rfl (by omega) (by omega) (fun c64 => ?_) (fun c64 => ?_)
                        · refine ST.lift (fun _ _ k => T_iconst (v := nI 0) d_Mo_pack_173 (by decide) k) ?_
                          refine ST.lift (fun _ _ k => T_istore (L' := [(5, .int (nI 0)), (3, .long z58), (2, .int (nI 1)), (0, .ref 373), (1, .int (nI a))]) d_Mo_pack_174 (by decide) rfl k) ?_
                          have lp81 : ∀ (n79 k78 : Nat), 16 - k78 = n79 → 0 ≤ k78 ∧ k78 ≤ 0 + 16 → ST G mi_Mo_pack 176 [(5, .int (nI k78)), (3, .long z58), (2, .int (nI 1)), (0, .ref 373), (1, .int (nI a))] [] v 0 0 Q := by
                            intro n79
                            induction n79 using Nat.strongRecOn with
                            | _ n79 ih80 =>
                              intro k78 h82 h83
                              refine ST.lift (fun _ _ k => T_iload d_Mo_pack_176 rfl k) ?_
                              refine ST.lift (fun _ _ k => T_bipush (v := nI 16) d_Mo_pack_178 (by decide) k) ?_
                              have J209_88 : ST G mi_Mo_pack 209 [(5, .int (nI k78)), (3, .long z58), (2, .int (nI 1)), (0, .ref 373), (1, .int (nI a))] [] v 0 0 Q := by
                                refine S_iincN (a := 1) (b := 1) (L' := [(2, .int (nI 2)), (5, .int (nI k78)), (3, .long z58), (0, .ref 373), (1, .int (nI a))]) d_Mo_pack_209 (by decide) rfl rfl rfl ?_
                                refine ST.lift (fun _ _ k => T_goto (tgt := 85) d_Mo_pack_212 rfl k) ?_
                                refine ST.lift (fun _ _ k => T_iload_n d_Mo_pack_85 rfl k) ?_
                                refine ST.lift (fun _ _ k => T_iconst (v := nI 3) d_Mo_pack_86 (by decide) k) ?_
                                refine S_icmp_geN d_Mo_pack_87 rfl (by omega) (by omega) (fun c => by first | exact absurd c (by omega) | exact c.elim | exact absurd c (by decide) | exact absurd (by assumption) c | exact absurd c (by assumption)) (fun _ => ?_)
                                refine ST.lift (fun _ _ k => T_lconst (v := 0) d_Mo_pack_90 (by decide) k) ?_
                                refine ST.lift (fun _ _ k => T_lstore_n (L' := [(3, .long 0), (2, .int (nI 2)), (5, .int (nI k78)), (0, .ref 373), (1, .int (nI a))]) d_Mo_pack_91 (by decide) rfl k) ?_
                                refine ST.lift (fun _ _ k => T_iconst (v := nI 0) d_Mo_pack_92 (by decide) k) ?_
                                refine ST.lift (fun _ _ k => T_istore (L' := [(5, .int (nI 0)), (3, .long 0), (2, .int (nI 2)), (0, .ref 373), (1, .int (nI a))]) d_Mo_pack_93 (by decide) rfl k) ?_
                                have lp93 : ∀ (n91 k89 : Nat) (z90 : Int64), 16 - k89 = n91 → 0 ≤ k89 ∧ k89 ≤ 0 + 16 → ST G mi_Mo_pack 95 [(5, .int (nI k89)), (3, .long z90), (2, .int (nI 2)), (0, .ref 373), (1, .int (nI a))] [] v 0 0 Q := by
                                  intro n91
                                  induction n91 using Nat.strongRecOn with
                                  | _ n91 ih92 =>
                                    intro k89 z90 h94 h95
                                    refine ST.lift (fun _ _ k => T_iload d_Mo_pack_95 rfl k) ?_
                                    refine ST.lift (fun _ _ k => T_bipush (v := nI 16) d_Mo_pack_97 (by decide) k) ?_
                                    refine S_icmp_geN d_Mo_pack_99 rfl (by omega) (by omega) (fun c96 => ?_) (fun c96 => ?_)
                                    · refine ST.lift (fun _ _ k => T_iconst (v := nI 0) d_Mo_pack_173 (by decide) k) ?_
                                      refine ST.lift (fun _ _ k => T_istore (L' := [(5, .int (nI 0)), (3, .long z90), (2, .int (nI 2)), (0, .ref 373), (1, .int (nI a))]) d_Mo_pack_174 (by decide) rfl k) ?_
                                      have lp113 : ∀ (n111 k110 : Nat), 16 - k110 = n111 → 0 ≤ k110 ∧ k110 ≤ 0 + 16 → ST G mi_Mo_pack 176 [(5, .int (nI k110)), (3, .long z90), (2, .int (nI 2)), (0, .ref 373), (1, .int (nI a))] [] v 0 0 Q := by
                                        intro n111
                                        induction n111 using Nat.strongRecOn with
                                        | _ n111 ih112 =>
                                          intro k110 h114 h115
                                          refine ST.lift (fun _ _ k => T_iload d_Mo_pack_176 rfl k) ?_
                                          refine ST.lift (fun _ _ k => T_bipush (v := nI 16) d_Mo_pack_178 (by decide) k) ?_
                                          have J209_120 : ST G mi_Mo_pack 209 [(5, .int (nI k110)), (3, .long z90), (2, .int (nI 2)), (0, .ref 373), (1, .int (nI a))] [] v 0 0 Q := by
                                            refine S_iincN (a := 2) (b := 1) (L' := [(2, .int (nI 3)), (5, .int (nI k110)), (3, .long z90), (0, .ref 373), (1, .int (nI a))]) d_Mo_pack_209 (by decide) rfl rfl rfl ?_
                                            refine ST.lift (fun _ _ k => T_goto (tgt := 85) d_Mo_pack_212 rfl k) ?_
                                            refine ST.lift (fun _ _ k => T_iload_n d_Mo_pack_85 rfl k) ?_
                                            refine ST.lift (fun _ _ k => T_iconst (v := nI 3) d_Mo_pack_86 (by decide) k) ?_
                                            refine S_icmp_geN d_Mo_pack_87 rfl (by omega) (by omega) (fun _ => ?_) (fun c => by first | exact absurd c (by omega) | exact c.elim | exact absurd c (by decide) | exact absurd (by assumption) c | exact absurd c (by assumption))
                                            refine ST.lift (fun _ _ k => T_iconst (v := nI 0) d_Mo_pack_215 (by decide) k) ?_
                                            refine ST.lift (fun _ _ k => T_istore_n (L' := [(2, .int (nI 0)), (5, .int (nI k110)), (3, .long z90), (0, .ref 373), (1, .int (nI a))]) d_Mo_pack_216 (by decide) rfl k) ?_
                                            have lp124 : ∀ (n122 k121 : Nat), 32 - k121 = n122 → 0 ≤ k121 ∧ k121 ≤ 0 + 32 → ST G mi_Mo_pack 217 [(2, .int (nI k121)), (5, .int (nI k110)), (3, .long z90), (0, .ref 373), (1, .int (nI a))] [] v 0 0 Q := by
                                              intro n122
                                              induction n122 using Nat.strongRecOn with
                                              | _ n122 ih123 =>
                                                intro k121 h125 h126
                                                refine ST.lift (fun _ _ k => T_iload_n d_Mo_pack_217 rfl k) ?_
                                                refine ST.lift (fun _ _ k => T_bipush (v := nI 32) d_Mo_pack_218 (by decide) k) ?_
                                                refine S_icmp_geN d_Mo_pack_220 rfl (by omega) (by omega) (fun c127 => ?_) (fun c127 => ?_)
                                                · exact S_vret d_Mo_pack_255 rfl (by decide) (by decide) hQ
                                                · refine ST.lift (fun _ _ k => T_aload_n (v := .ref 373) d_Mo_pack_223 rfl (Or.inr ⟨_, rfl⟩) k) ?_
                                                  refine S_getfield d_Mo_pack_224 fg_Mo_146 (w373 _) rfl ?_
                                                  refine ST.lift (fun _ _ k => T_iload_n d_Mo_pack_227 rfl k) ?_
                                                  refine ST.lift (fun _ _ k => T_aload_n (v := .ref 373) d_Mo_pack_228 rfl (Or.inr ⟨_, rfl⟩) k) ?_
                                                  refine S_getfield d_Mo_pack_229 fg_Mo_136 (w373 _) rfl ?_
                                                  refine ST.lift (fun _ _ k => T_iload_n d_Mo_pack_232 rfl k) ?_
                                                  refine ST.lift (fun _ _ k => T_iconst (v := nI 2) d_Mo_pack_233 (by decide) k) ?_
                                                  refine S_idivN d_Mo_pack_234 (by omega) (by omega) (by omega) ?_
                                                  refine S_laload d_Mo_pack_235 a393 (vp_in_nI (by omega) (by omega)) (fun z128 => ?_)
                                                  refine ST.lift (fun _ _ k => T_bipush (v := nI 8) d_Mo_pack_236 (by decide) k) ?_
                                                  refine ST.lift (fun _ _ k => T_iload_n d_Mo_pack_238 rfl k) ?_
                                                  refine ST.lift (fun _ _ k => T_iconst (v := nI 2) d_Mo_pack_239 (by decide) k) ?_
                                                  refine S_iremN d_Mo_pack_240 (by omega) (by omega) (by omega) ?_
                                                  refine S_imulN d_Mo_pack_241 ?_
                                                  refine ST.lift (fun _ _ k => T_lshr d_Mo_pack_242 k) (S_anyl fun z129 => ?_)
                                                  refine ST.lift (fun _ _ k => T_ldc2 d_Mo_pack_243 kJ_Mo_47 k) ?_
                                                  refine ST.lift (fun _ _ k => T_land d_Mo_pack_246 k) (S_anyl fun z130 => ?_)
                                                  refine ST.lift (fun _ _ k => T_l2i d_Mo_pack_247 k) (S_anyi fun z131 => ?_)
                                                  refine S_iastore d_Mo_pack_248 (by decide) a394 (vp_in_nI (by omega) (by omega)) ?_
                                                  refine S_iincN (a := k121) (b := 1) (L' := [(2, .int (nI (k121 + 1))), (5, .int (nI k110)), (3, .long z90), (0, .ref 373), (1, .int (nI a))]) d_Mo_pack_249 (by decide) rfl rfl rfl ?_
                                                  refine ST.lift (fun _ _ k => T_goto (tgt := 217) d_Mo_pack_252 rfl k) ?_
                                                  exact ih123 (32 - (k121 + 1)) (by omega) (k121 + 1)  rfl (by omega)
                                            exact lp124 _ 0  rfl (by omega)
                                          refine S_icmp_geN d_Mo_pack_180 rfl (by omega) (by omega) (fun c116 => ?_) (fun c116 => ?_)
                                          · exact J209_120 
                                          · refine ST.lift (fun _ _ k => T_lload_n d_Mo_pack_183 rfl k) ?_
                                            refine ST.lift (fun _ _ k => T_lconst (v := 0) d_Mo_pack_184 (by decide) k) ?_
                                            refine ST.lift (fun _ _ k => T_lcmp d_Mo_pack_185 k) (S_anyi fun z132 => ?_)
                                            refine S_if_ne d_Mo_pack_186 rfl (fun c133 => ?_) (fun c133 => ?_)
                                            · exact J209_120 
                                            · refine ST.lift (fun _ _ k => T_aload_n (v := .ref 373) d_Mo_pack_189 rfl (Or.inr ⟨_, rfl⟩) k) ?_
                                              refine S_getfield d_Mo_pack_190 fg_Mo_136 (w373 _) rfl ?_
                                              refine ST.lift (fun _ _ k => T_iload d_Mo_pack_193 rfl k) ?_
                                              refine ST.lift (fun _ _ k => T_aload_n (v := .ref 373) d_Mo_pack_195 rfl (Or.inr ⟨_, rfl⟩) k) ?_
                                              refine S_getfield d_Mo_pack_196 fg_Mo_143 (w373 _) rfl ?_
                                              refine ST.lift (fun _ _ k => T_iload d_Mo_pack_199 rfl k) ?_
                                              refine S_laload d_Mo_pack_201 a392 (vp_in_nI (by omega) (by omega)) (fun z134 => ?_)
                                              refine S_lastore d_Mo_pack_202 (by decide) a393 (vp_in_nI (by omega) (by omega)) ?_
                                              refine S_iincN (a := k110) (b := 1) (L' := [(5, .int (nI (k110 + 1))), (3, .long z90), (2, .int (nI 2)), (0, .ref 373), (1, .int (nI a))]) d_Mo_pack_203 (by decide) rfl rfl rfl ?_
                                              refine ST.lift (fun _ _ k => T_goto (tgt := 176) d_Mo_pack_206 rfl k) ?_
                                              exact ih112 (16 - (k110 + 1)) (by omega) (k110 + 1)  rfl (by omega)
                                      exact lp113 _ 0  rfl (by omega)
                                    · refine ST.lift (fun _ _ k => T_aload_n (v := .ref 373) d_Mo_pack_102 rfl (Or.inr ⟨_, rfl⟩) k) ?_
                                      refine S_getfield d_Mo_pack_103 fg_Mo_136 (w373 _) rfl ?_
                                      refine ST.lift (fun _ _ k => T_iload d_Mo_pack_106 rfl k) ?_
                                      refine S_laload d_Mo_pack_108 a393 (vp_in_nI (by omega) (by omega)) (fun z135 => ?_)
                                      refine ST.lift (fun _ _ k => T_lload_n d_Mo_pack_109 rfl k) ?_
                                      refine ST.lift (fun _ _ k => T_lsub d_Mo_pack_110 k) (S_anyl fun z136 => ?_)
                                      refine ST.lift (fun _ _ k => T_iload d_Mo_pack_111 rfl k) ?_
                                      have J138_140 : ∀ (z139 : Int64), ST G mi_Mo_pack 138 [(5, .int (nI k89)), (3, .long z90), (2, .int (nI 2)), (0, .ref 373), (1, .int (nI a))] [.long z139, .long z136] v 0 0 Q := by
                                        intro z139
                                        refine ST.lift (fun _ _ k => T_lsub d_Mo_pack_138 k) (S_anyl fun z141 => ?_)
                                        refine ST.lift (fun _ _ k => T_lstore (L' := [(6, .long z141), (5, .int (nI k89)), (3, .long z90), (2, .int (nI 2)), (0, .ref 373), (1, .int (nI a))]) d_Mo_pack_139 (by decide) rfl k) ?_
                                        refine ST.lift (fun _ _ k => T_aload_n (v := .ref 373) d_Mo_pack_141 rfl (Or.inr ⟨_, rfl⟩) k) ?_
                                        refine S_getfield d_Mo_pack_142 fg_Mo_143 (w373 _) rfl ?_
                                        refine ST.lift (fun _ _ k => T_iload d_Mo_pack_145 rfl k) ?_
                                        refine ST.lift (fun _ _ k => T_lload d_Mo_pack_147 rfl k) ?_
                                        refine ST.lift (fun _ _ k => T_ldc2 d_Mo_pack_149 kJ_Mo_29 k) ?_
                                        refine ST.lift (fun _ _ k => T_land d_Mo_pack_152 k) (S_anyl fun z142 => ?_)
                                        refine S_lastore d_Mo_pack_153 (by decide) a392 (vp_in_nI (by omega) (by omega)) ?_
                                        refine ST.lift (fun _ _ k => T_lload d_Mo_pack_154 rfl k) ?_
                                        refine ST.lift (fun _ _ k => T_lconst (v := 0) d_Mo_pack_156 (by decide) k) ?_
                                        refine ST.lift (fun _ _ k => T_lcmp d_Mo_pack_157 k) (S_anyi fun z143 => ?_)
                                        have J166_146 : ∀ (z145 : Int64), ST G mi_Mo_pack 166 [(6, .long z141), (5, .int (nI k89)), (3, .long z90), (2, .int (nI 2)), (0, .ref 373), (1, .int (nI a))] [.long z145] v 0 0 Q := by
                                          intro z145
                                          refine ST.lift (fun _ _ k => T_lstore_n (L' := [(3, .long z145), (6, .long z141), (5, .int (nI k89)), (2, .int (nI 2)), (0, .ref 373), (1, .int (nI a))]) d_Mo_pack_166 (by decide) rfl k) ?_
                                          refine S_iincN (a := k89) (b := 1) (L' := [(5, .int (nI (k89 + 1))), (3, .long z145), (6, .long z141), (2, .int (nI 2)), (0, .ref 373), (1, .int (nI a))]) d_Mo_pack_167 (by decide) rfl rfl rfl ?_
                                          refine ST.lift (fun _ _ k => T_goto (tgt := 95) d_Mo_pack_170 rfl k) ?_
                                          refine S_pick [0, 1, 3, 4, 5] rfl ?_
                                          exact ih92 (16 - (k89 + 1)) (by omega) (k89 + 1) z145 rfl (by omega)
                                        refine S_if_ge d_Mo_pack_158 rfl (fun c144 => ?_) (fun c144 => ?_)
                                        · refine ST.lift (fun _ _ k => T_lconst (v := 0) d_Mo_pack_165 (by decide) k) ?_
                                          exact J166_146 0
                                        · refine ST.lift (fun _ _ k => T_lconst (v := 1) d_Mo_pack_161 (by decide) k) ?_
                                          refine ST.lift (fun _ _ k => T_goto (tgt := 166) d_Mo_pack_162 rfl k) ?_
                                          exact J166_146 1
                                      refine S_if_neN d_Mo_pack_113 rfl (by omega) (fun c137 => ?_) (fun c137 => ?_)
                                      · refine ST.lift (fun _ _ k => T_iload d_Mo_pack_122 rfl k) ?_
                                        refine ST.lift (fun _ _ k => T_bipush (v := nI 15) d_Mo_pack_124 (by decide) k) ?_
                                        refine S_icmp_neN d_Mo_pack_126 rfl (by omega) (by omega) (fun c147 => ?_) (fun c147 => ?_)
                                        · refine ST.lift (fun _ _ k => T_ldc2 d_Mo_pack_135 kJ_Mo_29 k) ?_
                                          exact J138_140 (65535)
                                        · refine ST.lift (fun _ _ k => T_ldc2 d_Mo_pack_129 kJ_Mo_141 k) ?_
                                          refine ST.lift (fun _ _ k => T_goto (tgt := 138) d_Mo_pack_132 rfl k) ?_
                                          exact J138_140 (32767)
                                      · refine ST.lift (fun _ _ k => T_ldc2 d_Mo_pack_116 kJ_Mo_139 k) ?_
                                        refine ST.lift (fun _ _ k => T_goto (tgt := 138) d_Mo_pack_119 rfl k) ?_
                                        exact J138_140 (65517)
                                exact lp93 _ 0 0 rfl (by omega)
                              refine S_icmp_geN d_Mo_pack_180 rfl (by omega) (by omega) (fun c84 => ?_) (fun c84 => ?_)
                              · exact J209_88 
                              · refine ST.lift (fun _ _ k => T_lload_n d_Mo_pack_183 rfl k) ?_
                                refine ST.lift (fun _ _ k => T_lconst (v := 0) d_Mo_pack_184 (by decide) k) ?_
                                refine ST.lift (fun _ _ k => T_lcmp d_Mo_pack_185 k) (S_anyi fun z148 => ?_)
                                refine S_if_ne d_Mo_pack_186 rfl (fun c149 => ?_) (fun c149 => ?_)
                                · exact J209_88 
                                · refine ST.lift (fun _ _ k => T_aload_n (v := .ref 373) d_Mo_pack_189 rfl (Or.inr ⟨_, rfl⟩) k) ?_
                                  refine S_getfield d_Mo_pack_190 fg_Mo_136 (w373 _) rfl ?_
                                  refine ST.lift (fun _ _ k => T_iload d_Mo_pack_193 rfl k) ?_
                                  refine ST.lift (fun _ _ k => T_aload_n (v := .ref 373) d_Mo_pack_195 rfl (Or.inr ⟨_, rfl⟩) k) ?_
                                  refine S_getfield d_Mo_pack_196 fg_Mo_143 (w373 _) rfl ?_
                                  refine ST.lift (fun _ _ k => T_iload d_Mo_pack_199 rfl k) ?_
                                  refine S_laload d_Mo_pack_201 a392 (vp_in_nI (by omega) (by omega)) (fun z150 => ?_)
                                  refine S_lastore d_Mo_pack_202 (by decide) a393 (vp_in_nI (by omega) (by omega)) ?_
                                  refine S_iincN (a := k78) (b := 1) (L' := [(5, .int (nI (k78 + 1))), (3, .long z58), (2, .int (nI 1)), (0, .ref 373), (1, .int (nI a))]) d_Mo_pack_203 (by decide) rfl rfl rfl ?_
                                  refine ST.lift (fun _ _ k => T_goto (tgt := 176) d_Mo_pack_206 rfl k) ?_
                                  exact ih80 (16 - (k78 + 1)) (by omega) (k78 + 1)  rfl (by omega)
                          exact lp81 _ 0  rfl (by omega)
                        · refine ST.lift (fun _ _ k => T_aload_n (v := .ref 373) d_Mo_pack_102 rfl (Or.inr ⟨_, rfl⟩) k) ?_
                          refine S_getfield d_Mo_pack_103 fg_Mo_136 (w373 _) rfl ?_
                          refine ST.lift (fun _ _ k => T_iload d_Mo_pack_106 rfl k) ?_
                          refine S_laload d_Mo_pack_108 a393 (vp_in_nI (by omega) (by omega)) (fun z151 => ?_)
                          refine ST.lift (fun _ _ k => T_lload_n d_Mo_pack_109 rfl k) ?_
                          refine ST.lift (fun _ _ k => T_lsub d_Mo_pack_110 k) (S_anyl fun z152 => ?_)
                          refine ST.lift (fun _ _ k => T_iload d_Mo_pack_111 rfl k) ?_
                          have J138_156 : ∀ (z155 : Int64), ST G mi_Mo_pack 138 [(5, .int (nI k57)), (3, .long z58), (2, .int (nI 1)), (0, .ref 373), (1, .int (nI a))] [.long z155, .long z152] v 0 0 Q := by
                            intro z155
                            refine ST.lift (fun _ _ k => T_lsub d_Mo_pack_138 k) (S_anyl fun z157 => ?_)
                            refine ST.lift (fun _ _ k => T_lstore (L' := [(6, .long z157), (5, .int (nI k57)), (3, .long z58), (2, .int (nI 1)), (0, .ref 373), (1, .int (nI a))]) d_Mo_pack_139 (by decide) rfl k) ?_
                            refine ST.lift (fun _ _ k => T_aload_n (v := .ref 373) d_Mo_pack_141 rfl (Or.inr ⟨_, rfl⟩) k) ?_
                            refine S_getfield d_Mo_pack_142 fg_Mo_143 (w373 _) rfl ?_
                            refine ST.lift (fun _ _ k => T_iload d_Mo_pack_145 rfl k) ?_
                            refine ST.lift (fun _ _ k => T_lload d_Mo_pack_147 rfl k) ?_
                            refine ST.lift (fun _ _ k => T_ldc2 d_Mo_pack_149 kJ_Mo_29 k) ?_
                            refine ST.lift (fun _ _ k => T_land d_Mo_pack_152 k) (S_anyl fun z158 => ?_)
                            refine S_lastore d_Mo_pack_153 (by decide) a392 (vp_in_nI (by omega) (by omega)) ?_
                            refine ST.lift (fun _ _ k => T_lload d_Mo_pack_154 rfl k) ?_
                            refine ST.lift (fun _ _ k => T_lconst (v := 0) d_Mo_pack_156 (by decide) k) ?_
                            refine ST.lift (fun _ _ k => T_lcmp d_Mo_pack_157 k) (S_anyi fun z159 => ?_)
                            have J166_162 : ∀ (z161 : Int64), ST G mi_Mo_pack 166 [(6, .long z157), (5, .int (nI k57)), (3, .long z58), (2, .int (nI 1)), (0, .ref 373), (1, .int (nI a))] [.long z161] v 0 0 Q := by
                              intro z161
                              refine ST.lift (fun _ _ k => T_lstore_n (L' := [(3, .long z161), (6, .long z157), (5, .int (nI k57)), (2, .int (nI 1)), (0, .ref 373), (1, .int (nI a))]) d_Mo_pack_166 (by decide) rfl k) ?_
                              refine S_iincN (a := k57) (b := 1) (L' := [(5, .int (nI (k57 + 1))), (3, .long z161), (6, .long z157), (2, .int (nI 1)), (0, .ref 373), (1, .int (nI a))]) d_Mo_pack_167 (by decide) rfl rfl rfl ?_
                              refine ST.lift (fun _ _ k => T_goto (tgt := 95) d_Mo_pack_170 rfl k) ?_
                              refine S_pick [0, 1, 3, 4, 5] rfl ?_
                              exact ih60 (16 - (k57 + 1)) (by omega) (k57 + 1) z161 rfl (by omega)
                            refine S_if_ge d_Mo_pack_158 rfl (fun c160 => ?_) (fun c160 => ?_)
                            · refine ST.lift (fun _ _ k => T_lconst (v := 0) d_Mo_pack_165 (by decide) k) ?_
                              exact J166_162 0
                            · refine ST.lift (fun _ _ k => T_lconst (v := 1) d_Mo_pack_161 (by decide) k) ?_
                              refine ST.lift (fun _ _ k => T_goto (tgt := 166) d_Mo_pack_162 rfl k) ?_
                              exact J166_162 1
                          refine S_if_neN d_Mo_pack_113 rfl (by omega) (fun c153 => ?_) (fun c153 => ?_)
                          · refine ST.lift (fun _ _ k => T_iload d_Mo_pack_122 rfl k) ?_
                            refine ST.lift (fun _ _ k => T_bipush (v := nI 15) d_Mo_pack_124 (by decide) k) ?_
                            refine S_icmp_neN d_Mo_pack_126 rfl (by omega) (by omega) (fun c163 => ?_) (fun c163 => ?_)
                            · refine ST.lift (fun _ _ k => T_ldc2 d_Mo_pack_135 kJ_Mo_29 k) ?_
                              exact J138_156 (65535)
                            · refine ST.lift (fun _ _ k => T_ldc2 d_Mo_pack_129 kJ_Mo_141 k) ?_
                              refine ST.lift (fun _ _ k => T_goto (tgt := 138) d_Mo_pack_132 rfl k) ?_
                              exact J138_156 (32767)
                          · refine ST.lift (fun _ _ k => T_ldc2 d_Mo_pack_116 kJ_Mo_139 k) ?_
                            refine ST.lift (fun _ _ k => T_goto (tgt := 138) d_Mo_pack_119 rfl k) ?_
                            exact J138_156 (65517)
                    exact lp61 _ 0 0 rfl (by omega)
                  refine S_icmp_geN d_Mo_pack_180 rfl (by omega) (by omega) (fun c52 => ?_) (fun c52 => ?_)
                  · exact J209_56 
                  · refine ST.lift (fun _ _ k => T_lload_n d_Mo_pack_183 rfl k) ?_
                    refine ST.lift (fun _ _ k => T_lconst (v := 0) d_Mo_pack_184 (by decide) k) ?_
                    refine ST.lift (fun _ _ k => T_lcmp d_Mo_pack_185 k) (S_anyi fun z164 => ?_)
                    refine S_if_ne d_Mo_pack_186 rfl (fun c165 => ?_) (fun c165 => ?_)
                    · exact J209_56 
                    · refine ST.lift (fun _ _ k => T_aload_n (v := .ref 373) d_Mo_pack_189 rfl (Or.inr ⟨_, rfl⟩) k) ?_
                      refine S_getfield d_Mo_pack_190 fg_Mo_136 (w373 _) rfl ?_
                      refine ST.lift (fun _ _ k => T_iload d_Mo_pack_193 rfl k) ?_
                      refine ST.lift (fun _ _ k => T_aload_n (v := .ref 373) d_Mo_pack_195 rfl (Or.inr ⟨_, rfl⟩) k) ?_
                      refine S_getfield d_Mo_pack_196 fg_Mo_143 (w373 _) rfl ?_
                      refine ST.lift (fun _ _ k => T_iload d_Mo_pack_199 rfl k) ?_
                      refine S_laload d_Mo_pack_201 a392 (vp_in_nI (by omega) (by omega)) (fun z166 => ?_)
                      refine S_lastore d_Mo_pack_202 (by decide) a393 (vp_in_nI (by omega) (by omega)) ?_
                      refine S_iincN (a := k46) (b := 1) (L' := [(5, .int (nI (k46 + 1))), (3, .long z26), (2, .int (nI 0)), (0, .ref 373), (1, .int (nI a))]) d_Mo_pack_203 (by decide) rfl rfl rfl ?_
                      refine ST.lift (fun _ _ k => T_goto (tgt := 176) d_Mo_pack_206 rfl k) ?_
                      exact ih48 (16 - (k46 + 1)) (by omega) (k46 + 1)  rfl (by omega)
              exact lp49 _ 0  rfl (by omega)
            · refine ST.lift (fun _ _ k => T_aload_n (v := .ref 373) d_Mo_pack_102 rfl (Or.inr ⟨_, rfl⟩) k) ?_
              refine S_getfield d_Mo_pack_103 fg_Mo_136 (w373 _) rfl ?_
              refine ST.lift (fun _ _ k => T_iload d_Mo_pack_106 rfl k) ?_
              refine S_laload d_Mo_pack_108 a393 (vp_in_nI (by omega) (by omega)) (fun z167 => ?_)
              refine ST.lift (fun _ _ k => T_lload_n d_Mo_pack_109 rfl k) ?_
              refine ST.lift (fun _ _ k => T_lsub d_Mo_pack_110 k) (S_anyl fun z168 => ?_)
              refine ST.lift (fun _ _ k => T_iload d_Mo_pack_111 rfl k) ?_
              have J138_172 : ∀ (z171 : Int64), ST G mi_Mo_pack 138 [(5, .int (nI k25)), (3, .long z26), (2, .int (nI 0)), (0, .ref 373), (1, .int (nI a))] [.long z171, .long z168] v 0 0 Q := by
                intro z171
                refine ST.lift (fun _ _ k => T_lsub d_Mo_pack_138 k) (S_anyl fun z173 => ?_)
                refine ST.lift (fun _ _ k => T_lstore (L' := [(6, .long z173), (5, .int (nI k25)), (3, .long z26), (2, .int (nI 0)), (0, .ref 373), (1, .int (nI a))]) d_Mo_pack_139 (by decide) rfl k) ?_
                refine ST.lift (fun _ _ k => T_aload_n (v := .ref 373) d_Mo_pack_141 rfl (Or.inr ⟨_, rfl⟩) k) ?_
                refine S_getfield d_Mo_pack_142 fg_Mo_143 (w373 _) rfl ?_
                refine ST.lift (fun _ _ k => T_iload d_Mo_pack_145 rfl k) ?_
                refine ST.lift (fun _ _ k => T_lload d_Mo_pack_147 rfl k) ?_
                refine ST.lift (fun _ _ k => T_ldc2 d_Mo_pack_149 kJ_Mo_29 k) ?_
                refine ST.lift (fun _ _ k => T_land d_Mo_pack_152 k) (S_anyl fun z174 => ?_)
                refine S_lastore d_Mo_pack_153 (by decide) a392 (vp_in_nI (by omega) (by omega)) ?_
                refine ST.lift (fun _ _ k => T_lload d_Mo_pack_154 rfl k) ?_
                refine ST.lift (fun _ _ k => T_lconst (v := 0) d_Mo_pack_156 (by decide) k) ?_
                refine ST.lift (fun _ _ k => T_lcmp d_Mo_pack_157 k) (S_anyi fun z175 => ?_)
                have J166_178 : ∀ (z177 : Int64), ST G mi_Mo_pack 166 [(6, .long z173), (5, .int (nI k25)), (3, .long z26), (2, .int (nI 0)), (0, .ref 373), (1, .int (nI a))] [.long z177] v 0 0 Q := by
                  intro z177
                  refine ST.lift (fun _ _ k => T_lstore_n (L' := [(3, .long z177), (6, .long z173), (5, .int (nI k25)), (2, .int (nI 0)), (0, .ref 373), (1, .int (nI a))]) d_Mo_pack_166 (by decide) rfl k) ?_
                  refine S_iincN (a := k25) (b := 1) (L' := [(5, .int (nI (k25 + 1))), (3, .long z177), (6, .long z173), (2, .int (nI 0)), (0, .ref 373), (1, .int (nI a))]) d_Mo_pack_167 (by decide) rfl rfl rfl ?_
                  refine ST.lift (fun _ _ k => T_goto (tgt := 95) d_Mo_pack_170 rfl k) ?_
                  refine S_pick [0, 1, 3, 4, 5] rfl ?_
                  exact ih28 (16 - (k25 + 1)) (by omega) (k25 + 1) z177 rfl (by omega)
                refine S_if_ge d_Mo_pack_158 rfl (fun c176 => ?_) (fun c176 => ?_)
                · refine ST.lift (fun _ _ k => T_lconst (v := 0) d_Mo_pack_165 (by decide) k) ?_
                  exact J166_178 0
                · refine ST.lift (fun _ _ k => T_lconst (v := 1) d_Mo_pack_161 (by decide) k) ?_
                  refine ST.lift (fun _ _ k => T_goto (tgt := 166) d_Mo_pack_162 rfl k) ?_
                  exact J166_178 1
              refine S_if_neN d_Mo_pack_113 rfl (by omega) (fun c169 => ?_) (fun c169 => ?_)
              · refine ST.lift (fun _ _ k => T_iload d_Mo_pack_122 rfl k) ?_
                refine ST.lift (fun _ _ k => T_bipush (v := nI 15) d_Mo_pack_124 (by decide) k) ?_
                refine S_icmp_neN d_Mo_pack_126 rfl (by omega) (by omega) (fun c179 => ?_) (fun c179 => ?_)
                · refine ST.lift (fun _ _ k => T_ldc2 d_Mo_pack_135 kJ_Mo_29 k) ?_
                  exact J138_172 (65535)
                · refine ST.lift (fun _ _ k => T_ldc2 d_Mo_pack_129 kJ_Mo_141 k) ?_
                  refine ST.lift (fun _ _ k => T_goto (tgt := 138) d_Mo_pack_132 rfl k) ?_
                  exact J138_172 (32767)
              · refine ST.lift (fun _ _ k => T_ldc2 d_Mo_pack_116 kJ_Mo_139 k) ?_
                refine ST.lift (fun _ _ k => T_goto (tgt := 138) d_Mo_pack_119 rfl k) ?_
                exact J138_172 (65517)
        exact lp29 _ 0 0 rfl (by omega)
      · refine ST.lift (fun _ _ k => T_aload_n (v := .ref 373) d_Mo_pack_8 rfl (Or.inr ⟨_, rfl⟩) k) ?_
        refine S_getfield d_Mo_pack_9 fg_Mo_124 (w373 _) rfl ?_
        refine ST.lift (fun _ _ k => T_sipush (v := nI 1008) d_Mo_pack_12 (by decide) k) ?_
        refine ST.lift (fun _ _ k => T_iload_n d_Mo_pack_15 rfl k) ?_
        refine S_iaddN d_Mo_pack_16 ?_
        refine ST.lift (fun _ _ k => T_aload_n (v := .ref 373) d_Mo_pack_17 rfl (Or.inr ⟨_, rfl⟩) k) ?_
        refine S_getfield d_Mo_pack_18 fg_Mo_124 (w373 _) rfl ?_
        refine ST.lift (fun _ _ k => T_bipush (v := nI 16) d_Mo_pack_21 (by decide) k) ?_
        refine ST.lift (fun _ _ k => T_iload_n d_Mo_pack_23 rfl k) ?_
        refine S_imulN d_Mo_pack_24 ?_
        refine ST.lift (fun _ _ k => T_iload_n d_Mo_pack_25 rfl k) ?_
        refine S_iaddN d_Mo_pack_26 ?_
        refine S_laload d_Mo_pack_27 a390 (vp_in_nI (by omega) (by omega)) (fun z180 => ?_)
        refine S_lastore d_Mo_pack_28 (by decide) a390 (vp_in_nI (by omega) (by omega)) ?_
        refine S_iincN (a := k1) (b := 1) (L' := [(2, .int (nI (k1 + 1))), (0, .ref 373), (1, .int (nI a))]) d_Mo_pack_29 (by decide) rfl rfl rfl ?_
        refine ST.lift (fun _ _ k => T_goto (tgt := 2) d_Mo_pack_32 rfl k) ?_
        exact ih3 (16 - (k1 + 1)) (by omega) (k1 + 1)  rfl (by omega)
  exact lp4 _ 0  rfl (by omega)
set_option maxRecDepth 100000 in
set_option maxHeartbeats 4000000 in
theorem c_Mo_odd (G : GX) (v : Nat → Int32) (a : Nat) (b_a : a ≤ 63) : CS G mi_Mo_odd [.ref 373, .int (nI a)] v (fun r v' => ∃ z : Nat, z ≤ 1 ∧ r = some (.int (nI z)) ∧ v' = v) := by
  refine CS.of (by decide) (Nat.le_of_ble_eq_true rfl) ?_
  generalize hQe : (fun (r : Option Value) (v' : Nat → Int32) => ∃ z : Nat, z ≤ 1 ∧ r = some (.int (nI z)) ∧ v' = v) = Q
  have hQ : ∀ z : Nat, z ≤ 1 → Q (some (.int (nI z))) v := by rw [← hQe]; exact fun z hz => ⟨z, hz, rfl, rfl⟩
  clear hQe
  show ST G mi_Mo_odd 0 [(0, .ref 373), (1, .int (nI a))] [] v 0 0 Q
  refine ST.lift (fun _ _ k => T_aload_n (v := .ref 373) d_Mo_odd_0 rfl (Or.inr ⟨_, rfl⟩) k) ?_
  refine ST.lift (fun _ _ k => T_iload_n d_Mo_odd_1 rfl k) ?_
  refine S_virtual (as := [.int (nI a)]) (rest := []) (b := 373) d_Mo_odd_2 rfl (jw_Mo_pack.jo (by decide)) lm_Mo_149 ji_Mo_pack js_Mo_pack (w373 _) rfl rfl rfl (Nat.le_of_ble_eq_true rfl) (by decide) (by decide) (c_Mo_pack G v a (by omega)) (fun r v' hq => ?_)
  rw [hq.1, hq.2]
  clear hq r v'
  show ST G mi_Mo_odd 5 [(0, .ref 373), (1, .int (nI a))] [] v 0 0 _
  refine ST.lift (fun _ _ k => T_aload_n (v := .ref 373) d_Mo_odd_5 rfl (Or.inr ⟨_, rfl⟩) k) ?_
  refine S_getfield d_Mo_odd_6 fg_Mo_146 (w373 _) rfl ?_
  refine ST.lift (fun _ _ k => T_iconst (v := nI 0) d_Mo_odd_9 (by decide) k) ?_
  refine S_iaload d_Mo_odd_10 a394 (vp_in_nI (by omega) (by omega)) (fun z1 => ?_)
  refine ST.lift (fun _ _ k => T_iconst (v := nI 1) d_Mo_odd_11 (by decide) k) ?_
  refine S_iandM 1 d_Mo_odd_12 (by decide) (by decide) (fun j2 hj2 => ?_)
  simp only [Nat.reducePow] at hj2
  refine ST.lift (fun _ _ k => T_iconst (v := nI 1) d_Mo_odd_13 (by decide) k) ?_
  refine S_icmp_neN d_Mo_odd_14 rfl (by omega) (by omega) (fun c3 => ?_) (fun c3 => ?_)
  · refine ST.lift (fun _ _ k => T_iconst (v := nI 0) d_Mo_odd_21 (by decide) k) ?_
    exact S_ret d_Mo_odd_22 rfl (by decide) (by decide) (by decide) (hQ 0 (by decide))
  · refine ST.lift (fun _ _ k => T_iconst (v := nI 1) d_Mo_odd_17 (by decide) k) ?_
    refine ST.lift (fun _ _ k => T_goto (tgt := 22) d_Mo_odd_18 rfl k) ?_
    exact S_ret d_Mo_odd_22 rfl (by decide) (by decide) (by decide) (hQ 1 (by decide))
set_option maxRecDepth 100000 in
set_option maxHeartbeats 4000000 in
theorem c_Mo_isZero (G : GX) (v : Nat → Int32) (a : Nat) (b_a : a ≤ 63) : CS G mi_Mo_isZero [.ref 373, .int (nI a)] v (fun r v' => ∃ z : Nat, z ≤ 1 ∧ r = some (.int (nI z)) ∧ v' = v) := by
  refine CS.of (by decide) (Nat.le_of_ble_eq_true rfl) ?_
  generalize hQe : (fun (r : Option Value) (v' : Nat → Int32) => ∃ z : Nat, z ≤ 1 ∧ r = some (.int (nI z)) ∧ v' = v) = Q
  have hQ : ∀ z : Nat, z ≤ 1 → Q (some (.int (nI z))) v := by rw [← hQe]; exact fun z hz => ⟨z, hz, rfl, rfl⟩
  clear hQe
  show ST G mi_Mo_isZero 0 [(0, .ref 373), (1, .int (nI a))] [] v 0 0 Q
  refine ST.lift (fun _ _ k => T_aload_n (v := .ref 373) d_Mo_isZero_0 rfl (Or.inr ⟨_, rfl⟩) k) ?_
  refine ST.lift (fun _ _ k => T_iload_n d_Mo_isZero_1 rfl k) ?_
  refine S_virtual (as := [.int (nI a)]) (rest := []) (b := 373) d_Mo_isZero_2 rfl (jw_Mo_pack.jo (by decide)) lm_Mo_149 ji_Mo_pack js_Mo_pack (w373 _) rfl rfl rfl (Nat.le_of_ble_eq_true rfl) (by decide) (by decide) (c_Mo_pack G v a (by omega)) (fun r v' hq => ?_)
  rw [hq.1, hq.2]
  clear hq r v'
  show ST G mi_Mo_isZero 5 [(0, .ref 373), (1, .int (nI a))] [] v 0 0 _
  refine ST.lift (fun _ _ k => T_iconst (v := nI 0) d_Mo_isZero_5 (by decide) k) ?_
  refine ST.lift (fun _ _ k => T_istore_n (L' := [(2, .int (nI 0)), (0, .ref 373), (1, .int (nI a))]) d_Mo_isZero_6 (by decide) rfl k) ?_
  refine ST.lift (fun _ _ k => T_iconst (v := nI 0) d_Mo_isZero_7 (by decide) k) ?_
  refine ST.lift (fun _ _ k => T_istore_n (L' := [(3, .int (nI 0)), (2, .int (nI 0)), (0, .ref 373), (1, .int (nI a))]) d_Mo_isZero_8 (by decide) rfl k) ?_
  have lp5 : ∀ (n3 k1 : Nat) (z2 : Int32), 32 - k1 = n3 → 0 ≤ k1 ∧ k1 ≤ 0 + 32 → ST G mi_Mo_isZero 9 [(3, .int (nI k1)), (2, .int z2), (0, .ref 373), (1, .int (nI a))] [] v 0 0 Q := by
    intro n3
    induction n3 using Nat.strongRecOn with
    | _ n3 ih4 =>
      intro k1 z2 h6 h7
      refine ST.lift (fun _ _ k => T_iload_n d_Mo_isZero_9 rfl k) ?_
      refine ST.lift (fun _ _ k => T_bipush (v := nI 32) d_Mo_isZero_10 (by decide) k) ?_
      refine S_icmp_geN d_Mo_isZero_12 rfl (by omega) (by omega) (fun c8 => ?_) (fun c8 => ?_)
      · refine ST.lift (fun _ _ k => T_iload_n d_Mo_isZero_30 rfl k) ?_
        refine S_if_ne d_Mo_isZero_31 rfl (fun c11 => ?_) (fun c11 => ?_)
        · refine ST.lift (fun _ _ k => T_iconst (v := nI 0) d_Mo_isZero_38 (by decide) k) ?_
          exact S_ret d_Mo_isZero_39 rfl (by decide) (by decide) (by decide) (hQ 0 (by decide))
        · refine ST.lift (fun _ _ k => T_iconst (v := nI 1) d_Mo_isZero_34 (by decide) k) ?_
          refine ST.lift (fun _ _ k => T_goto (tgt := 39) d_Mo_isZero_35 rfl k) ?_
          exact S_ret d_Mo_isZero_39 rfl (by decide) (by decide) (by decide) (hQ 1 (by decide))
      · refine ST.lift (fun _ _ k => T_iload_n d_Mo_isZero_15 rfl k) ?_
        refine ST.lift (fun _ _ k => T_aload_n (v := .ref 373) d_Mo_isZero_16 rfl (Or.inr ⟨_, rfl⟩) k) ?_
        refine S_getfield d_Mo_isZero_17 fg_Mo_146 (w373 _) rfl ?_
        refine ST.lift (fun _ _ k => T_iload_n d_Mo_isZero_20 rfl k) ?_
        refine S_iaload d_Mo_isZero_21 a394 (vp_in_nI (by omega) (by omega)) (fun z12 => ?_)
        refine ST.lift (fun _ _ k => T_ior d_Mo_isZero_22 k) (S_anyi fun z13 => ?_)
        refine ST.lift (fun _ _ k => T_istore_n (L' := [(2, .int z13), (3, .int (nI k1)), (0, .ref 373), (1, .int (nI a))]) d_Mo_isZero_23 (by decide) rfl k) ?_
        refine S_iincN (a := k1) (b := 1) (L' := [(3, .int (nI (k1 + 1))), (2, .int z13), (0, .ref 373), (1, .int (nI a))]) d_Mo_isZero_24 (by decide) rfl rfl rfl ?_
        refine ST.lift (fun _ _ k => T_goto (tgt := 9) d_Mo_isZero_27 rfl k) ?_
        exact ih4 (32 - (k1 + 1)) (by omega) (k1 + 1) z13 rfl (by omega)
  exact lp5 _ 0 (nI 0) rfl (by omega)
set_option maxRecDepth 100000 in
set_option maxHeartbeats 4000000 in
theorem c_Mo_same (G : GX) (v : Nat → Int32) (a : Nat) (b_a : a ≤ 63) (b : Nat) (b_b : b ≤ 63) : CS G mi_Mo_same [.ref 373, .int (nI a), .int (nI b)] v (fun r v' => ∃ z : Nat, z ≤ 1 ∧ r = some (.int (nI z)) ∧ v' = v) := by
  refine CS.of (by decide) (Nat.le_of_ble_eq_true rfl) ?_
  generalize hQe : (fun (r : Option Value) (v' : Nat → Int32) => ∃ z : Nat, z ≤ 1 ∧ r = some (.int (nI z)) ∧ v' = v) = Q
  have hQ : ∀ z : Nat, z ≤ 1 → Q (some (.int (nI z))) v := by rw [← hQe]; exact fun z hz => ⟨z, hz, rfl, rfl⟩
  clear hQe
  show ST G mi_Mo_same 0 [(0, .ref 373), (1, .int (nI a)), (2, .int (nI b))] [] v 0 0 Q
  refine ST.lift (fun _ _ k => T_aload_n (v := .ref 373) d_Mo_same_0 rfl (Or.inr ⟨_, rfl⟩) k) ?_
  refine ST.lift (fun _ _ k => T_bipush (v := nI 62) d_Mo_same_1 (by decide) k) ?_
  refine ST.lift (fun _ _ k => T_iload_n d_Mo_same_3 rfl k) ?_
  refine ST.lift (fun _ _ k => T_iload_n d_Mo_same_4 rfl k) ?_
  refine S_virtual (as := [.int (nI 62), .int (nI a), .int (nI b)]) (rest := []) (b := 373) d_Mo_same_5 rfl (jw_Mo_sub.jo (by decide)) lm_Mo_152 ji_Mo_sub js_Mo_sub (w373 _) rfl rfl rfl (Nat.le_of_ble_eq_true rfl) (by decide) (by decide) (c_Mo_sub G v 62 (by omega) a (by omega) b (by omega)) (fun r v' hq => ?_)
  rw [hq.1, hq.2]
  clear hq r v'
  show ST G mi_Mo_same 8 [(0, .ref 373), (1, .int (nI a)), (2, .int (nI b))] [] v 0 0 _
  refine ST.lift (fun _ _ k => T_aload_n (v := .ref 373) d_Mo_same_8 rfl (Or.inr ⟨_, rfl⟩) k) ?_
  refine ST.lift (fun _ _ k => T_bipush (v := nI 62) d_Mo_same_9 (by decide) k) ?_
  refine S_virtual (as := [.int (nI 62)]) (rest := []) (b := 373) d_Mo_same_11 rfl (jw_Mo_isZero.jo (by decide)) lm_Mo_156 ji_Mo_isZero js_Mo_isZero (w373 _) rfl rfl rfl (Nat.le_of_ble_eq_true rfl) (by decide) (by decide) (c_Mo_isZero G v 62 (by omega)) (fun r v' hq => ?_)
  obtain ⟨z1, hz1, hr, hv⟩ := hq
  rw [hr, hv]
  clear hr hv r v'
  show ST G mi_Mo_same 14 [(0, .ref 373), (1, .int (nI a)), (2, .int (nI b))] [.int (nI z1)] v 0 0 _
  exact S_ret d_Mo_same_14 rfl (nar_z (by omega)) (by decide) (by decide) (hQ z1 (by omega))

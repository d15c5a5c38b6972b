set_option maxRecDepth 100000 in
set_option maxHeartbeats 4000000 in
theorem c_By_putAll (G : GX) (v : Nat → Int32) (b bd bc bj : Nat) (y_b : isBy b bd bc bj) (o od oc oj : Nat) (y_o : isBy o od oc oj) (hv : okv v) : CS G mi_By_putAll [.ref b, .ref o] v (fun r v' => r = none ∧ okv v' ∧ mdf [bj] v v') := by
  refine CS.of (by decide) (Nat.le_of_ble_eq_true rfl) ?_
  generalize hQe : (fun (r : Option Value) (v' : Nat → Int32) => r = none ∧ okv v' ∧ mdf [bj] v v') = Q
  have hQ : ∀ u, okv u → mdf [bj] v u → Q none u := by rw [← hQe]; exact fun u h1 h2 => ⟨rfl, h1, h2⟩
  clear hQe
  have hm : mdf [bj] v v := mdf.rf
  have l_b := y_b.2.2.2.2.2
  have l_o := y_o.2.2.2.2.2
  show ST G mi_By_putAll 0 [(0, .ref b), (1, .ref o)] [] v 0 0 Q
  refine ST.lift (fun _ _ k => T_aload_n (v := .ref b) d_By_putAll_0 rfl (Or.inr ⟨_, rfl⟩) k) ?_
  refine ST.lift (fun _ _ k => T_aload_n (v := .ref o) d_By_putAll_1 rfl (Or.inr ⟨_, rfl⟩) k) ?_
  refine S_getfield d_By_putAll_2 fg_By_7 (y_o.1 _) rfl ?_
  refine ST.lift (fun _ _ k => T_iconst (v := nI 0) d_By_putAll_5 (by decide) k) ?_
  refine ST.lift (fun _ _ k => T_aload_n (v := .ref o) d_By_putAll_6 rfl (Or.inr ⟨_, rfl⟩) k) ?_
  obtain ⟨k1, hk1, ek1⟩ := hv.get (j := oj) (c := oc) y_o.2.2.2.2.1
  refine S_getfield d_By_putAll_7 fg_By_13 (y_o.1 _) rfl ?_
  refine S_topi (y := nI k1) (ek1) ?_
  refine S_virtual (as := [.ref od, .int (nI 0), .int (nI k1)]) (rest := []) (b := b) d_By_putAll_10 rfl (jw_By_put.jo (by decide)) lm_By_23 ji_By_put js_By_put (y_b.1 _) rfl rfl rfl (Nat.le_of_ble_eq_true rfl) (by decide) (by decide) (c_By_put G v b bd bc bj y_b od oc y_o.2.2.1 y_o.2.1 (by omega) 0 (by omega) k1 (by omega) hv) (fun r u2 hq => ?_)
  obtain ⟨hr, hv3, hm4⟩ := hq
  rw [hr]
  clear hr r
  have hm5 := hm.go hm4 (by intro i hi; simp only [List.mem_cons, List.not_mem_nil, or_false] at hi ⊢ <;> omega)
  show ST G mi_By_putAll 13 [(0, .ref b), (1, .ref o)] [] u2 0 0 _
  exact S_vret d_By_putAll_13 rfl (by decide) (by decide) (hQ _ hv3 hm5)
set_option maxRecDepth 100000 in
set_option maxHeartbeats 4000000 in
theorem c_By_putNumber_2 (G : GX) (v : Nat → Int32) (b bd bc bj : Nat) (y_b : isBy b bd bc bj) (x : Int32) (hv : okv v) : CS G mi_By_putNumber [.ref b, .int x, .int (nI 2)] v (fun r v' => r = none ∧ okv v' ∧ mdf [bj] v v') := by
  refine CS.of (by decide) (Nat.le_of_ble_eq_true rfl) ?_
  generalize hQe : (fun (r : Option Value) (v' : Nat → Int32) => r = none ∧ okv v' ∧ mdf [bj] v v') = Q
  have hQ : ∀ u, okv u → mdf [bj] v u → Q none u := by rw [← hQe]; exact fun u h1 h2 => ⟨rfl, h1, h2⟩
  clear hQe
  have hm : mdf [bj] v v := mdf.rf
  have l_b := y_b.2.2.2.2.2
  show ST G mi_By_putNumber 0 [(0, .ref b), (1, .int x), (2, .int (nI 2))] [] v 0 0 Q
  refine ST.lift (fun _ _ k => T_iload_n d_By_putNumber_0 rfl k) ?_
  refine ST.lift (fun _ _ k => T_iconst (v := nI 1) d_By_putNumber_1 (by decide) k) ?_
  refine S_isubN d_By_putNumber_2 (by omega) ?_
  refine S_topi (y := nI 1) (by decide) ?_
  refine ST.lift (fun _ _ k => T_istore_n (L' := [(3, .int (nI 1)), (0, .ref b), (1, .int x), (2, .int (nI 2))]) d_By_putNumber_3 (by decide) rfl k) ?_
  refine ST.lift (fun _ _ k => T_iload_n d_By_putNumber_4 rfl k) ?_
  refine S_if_ltN d_By_putNumber_5 rfl (by omega) (fun c => by first | exact absurd c (by omega) | exact c.elim | exact absurd c (by decide) | exact absurd (by assumption) c | exact absurd c (by assumption)) (fun _ => ?_)
  refine ST.lift (fun _ _ k => T_aload_n (v := .ref b) d_By_putNumber_8 rfl (Or.inr ⟨_, rfl⟩) k) ?_
  refine ST.lift (fun _ _ k => T_iload_n d_By_putNumber_9 rfl k) ?_
  refine ST.lift (fun _ _ k => T_bipush (v := nI 8) d_By_putNumber_10 (by decide) k) ?_
  refine ST.lift (fun _ _ k => T_iload_n d_By_putNumber_12 rfl k) ?_
  refine S_imulN d_By_putNumber_13 ?_
  refine S_topi (y := nI 8) (by decide) ?_
  refine ST.lift (fun _ _ k => T_iushr d_By_putNumber_14 k) (S_anyi fun z1 => ?_)
  refine S_virtual (as := [.int z1]) (rest := []) (b := b) d_By_putNumber_15 rfl (jw_By_putByte.jo (by decide)) lm_By_27 ji_By_putByte js_By_putByte (y_b.1 _) rfl rfl rfl (Nat.le_of_ble_eq_true rfl) (by decide) (by decide) (c_By_putByte G v b bd bc bj y_b z1 hv) (fun r u2 hq => ?_)
  obtain ⟨hr, hv3, hm4⟩ := hq
  rw [hr]
  clear hr r
  have hm5 := hm.go hm4 (by intro i hi; simp only [List.mem_cons, List.not_mem_nil, or_false] at hi ⊢ <;> omega)
  show ST G mi_By_putNumber 18 [(3, .int (nI 1)), (0, .ref b), (1, .int x), (2, .int (nI 2))] [] u2 0 0 _
  refine ST.lift (fun _ _ k => T_iinc (x := nI 1) (L' := [(3, .int (nI 0)), (0, .ref b), (1, .int x), (2, .int (nI 2))]) d_By_putNumber_18 (by decide) rfl (by rw [show nI 1 + Int32.ofInt (-1) = nI 0 by decide]; rfl) k) ?_
  refine ST.lift (fun _ _ k => T_goto (tgt := 4) d_By_putNumber_21 rfl k) ?_
  refine ST.lift (fun _ _ k => T_iload_n d_By_putNumber_4 rfl k) ?_
  refine S_if_ltN d_By_putNumber_5 rfl (by omega) (fun c => by first | exact absurd c (by omega) | exact c.elim | exact absurd c (by decide) | exact absurd (by assumption) c | exact absurd c (by assumption)) (fun _ => ?_)
  refine ST.lift (fun _ _ k => T_aload_n (v := .ref b) d_By_putNumber_8 rfl (Or.inr ⟨_, rfl⟩) k) ?_
  refine ST.lift (fun _ _ k => T_iload_n d_By_putNumber_9 rfl k) ?_
  refine ST.lift (fun _ _ k => T_bipush (v := nI 8) d_By_putNumber_10 (by decide) k) ?_
  refine ST.lift (fun _ _ k => T_iload_n d_By_putNumber_12 rfl k) ?_
  refine S_imulN d_By_putNumber_13 ?_
  refine S_topi (y := nI 0) (by decide) ?_
  refine ST.lift (fun _ _ k => T_iushr d_By_putNumber_14 k) (S_anyi fun z6 => ?_)
  refine S_virtual (as := [.int z6]) (rest := []) (b := b) d_By_putNumber_15 rfl (jw_By_putByte.jo (by decide)) lm_By_27 ji_By_putByte js_By_putByte (y_b.1 _) rfl rfl rfl (Nat.le_of_ble_eq_true rfl) (by decide) (by decide) (c_By_putByte G u2 b bd bc bj y_b z6 hv3) (fun r u7 hq => ?_)
  obtain ⟨hr, hv8, hm9⟩ := hq
  rw [hr]
  clear hr r
  have hm10 := hm5.go hm9 (by intro i hi; simp only [List.mem_cons, List.not_mem_nil, or_false] at hi ⊢ <;> omega)
  show ST G mi_By_putNumber 18 [(3, .int (nI 0)), (0, .ref b), (1, .int x), (2, .int (nI 2))] [] u7 0 0 _
  refine S_iincD (a := 0) (L' := [(3, .int (nI 0 - 1)), (0, .ref b), (1, .int x), (2, .int (nI 2))]) d_By_putNumber_18 (by decide) rfl rfl ?_
  refine ST.lift (fun _ _ k => T_goto (tgt := 4) d_By_putNumber_21 rfl k) ?_
  refine ST.lift (fun _ _ k => T_iload_n d_By_putNumber_4 rfl k) ?_
  refine S_if_ltD d_By_putNumber_5 rfl (by omega) (fun _ => ?_) (fun _ h => by omega)
  exact S_vret d_By_putNumber_24 rfl (by decide) (by decide) (hQ _ hv8 hm10)
set_option maxRecDepth 100000 in
set_option maxHeartbeats 4000000 in
theorem c_By_putNumber_4 (G : GX) (v : Nat → Int32) (b bd bc bj : Nat) (y_b : isBy b bd bc bj) (x : Int32) (hv : okv v) : CS G mi_By_putNumber [.ref b, .int x, .int (nI 4)] v (fun r v' => r = none ∧ okv v' ∧ mdf [bj] v v') := by
  refine CS.of (by decide) (Nat.le_of_ble_eq_true rfl) ?_
  generalize hQe : (fun (r : Option Value) (v' : Nat → Int32) => r = none ∧ okv v' ∧ mdf [bj] v v') = Q
  have hQ : ∀ u, okv u → mdf [bj] v u → Q none u := by rw [← hQe]; exact fun u h1 h2 => ⟨rfl, h1, h2⟩
  clear hQe
  have hm : mdf [bj] v v := mdf.rf
  have l_b := y_b.2.2.2.2.2
  show ST G mi_By_putNumber 0 [(0, .ref b), (1, .int x), (2, .int (nI 4))] [] v 0 0 Q
  refine ST.lift (fun _ _ k => T_iload_n d_By_putNumber_0 rfl k) ?_
  refine ST.lift (fun _ _ k => T_iconst (v := nI 1) d_By_putNumber_1 (by decide) k) ?_
  refine S_isubN d_By_putNumber_2 (by omega) ?_
  refine S_topi (y := nI 3) (by decide) ?_
  refine ST.lift (fun _ _ k => T_istore_n (L' := [(3, .int (nI 3)), (0, .ref b), (1, .int x), (2, .int (nI 4))]) d_By_putNumber_3 (by decide) rfl k) ?_
  refine ST.lift (fun _ _ k => T_iload_n d_By_putNumber_4 rfl k) ?_
  refine S_if_ltN d_By_putNumber_5 rfl (by omega) (fun c => by first | exact absurd c (by omega) | exact c.elim | exact absurd c (by decide) | exact absurd (by assumption) c | exact absurd c (by assumption)) (fun _ => ?_)
  refine ST.lift (fun _ _ k => T_aload_n (v := .ref b) d_By_putNumber_8 rfl (Or.inr ⟨_, rfl⟩) k) ?_
  refine ST.lift (fun _ _ k => T_iload_n d_By_putNumber_9 rfl k) ?_
  refine ST.lift (fun _ _ k => T_bipush (v := nI 8) d_By_putNumber_10 (by decide) k) ?_
  refine ST.lift (fun _ _ k => T_iload_n d_By_putNumber_12 rfl k) ?_
  refine S_imulN d_By_putNumber_13 ?_
  refine S_topi (y := nI 24) (by decide) ?_
  refine ST.lift (fun _ _ k => T_iushr d_By_putNumber_14 k) (S_anyi fun z1 => ?_)
  refine S_virtual (as := [.int z1]) (rest := []) (b := b) d_By_putNumber_15 rfl (jw_By_putByte.jo (by decide)) lm_By_27 ji_By_putByte js_By_putByte (y_b.1 _) rfl rfl rfl (Nat.le_of_ble_eq_true rfl) (by decide) (by decide) (c_By_putByte G v b bd bc bj y_b z1 hv) (fun r u2 hq => ?_)
  obtain ⟨hr, hv3, hm4⟩ := hq
  rw [hr]
  clear hr r
  have hm5 := hm.go hm4 (by intro i hi; simp only [List.mem_cons, List.not_mem_nil, or_false] at hi ⊢ <;> omega)
  show ST G mi_By_putNumber 18 [(3, .int (nI 3)), (0, .ref b), (1, .int x), (2, .int (nI 4))] [] u2 0 0 _
  refine ST.lift (fun _ _ k => T_iinc (x := nI 3) (L' := [(3, .int (nI 2)), (0, .ref b), (1, .int x), (2, .int (nI 4))]) d_By_putNumber_18 (by decide) rfl (by rw [show nI 3 + Int32.ofInt (-1) = nI 2 by decide]; rfl) k) ?_
  refine ST.lift (fun _ _ k => T_goto (tgt := 4) d_By_putNumber_21 rfl k) ?_
  refine ST.lift (fun _ _ k => T_iload_n d_By_putNumber_4 rfl k) ?_
  refine S_if_ltN d_By_putNumber_5 rfl (by omega) (fun c => by first | exact absurd c (by omega) | exact c.elim | exact absurd c (by decide) | exact absurd (by assumption) c | exact absurd c (by assumption)) (fun _ => ?_)
  refine ST.lift (fun _ _ k => T_aload_n (v := .ref b) d_By_putNumber_8 rfl (Or.inr ⟨_, rfl⟩) k) ?_
  refine ST.lift (fun _ _ k => T_iload_n d_By_putNumber_9 rfl k) ?_
  refine ST.lift (fun _ _ k => T_bipush (v := nI 8) d_By_putNumber_10 (by decide) k) ?_
  refine ST.lift (fun _ _ k => T_iload_n d_By_putNumber_12 rfl k) ?_
  refine S_imulN d_By_putNumber_13 ?_
  refine S_topi (y := nI 16) (by decide) ?_
  refine ST.lift (fun _ _ k => T_iushr d_By_putNumber_14 k) (S_anyi fun z6 => ?_)
  refine S_virtual (as := [.int z6]) (rest := []) (b := b) d_By_putNumber_15 rfl (jw_By_putByte.jo (by decide)) lm_By_27 ji_By_putByte js_By_putByte (y_b.1 _) rfl rfl rfl (Nat.le_of_ble_eq_true rfl) (by decide) (by decide) (c_By_putByte G u2 b bd bc bj y_b z6 hv3) (fun r u7 hq => ?_)
  obtain ⟨hr, hv8, hm9⟩ := hq
  rw [hr]
  clear hr r
  have hm10 := hm5.go hm9 (by intro i hi; simp only [List.mem_cons, List.not_mem_nil, or_false] at hi ⊢ <;> omega)
  show ST G mi_By_putNumber 18 [(3, .int (nI 2)), (0, .ref b), (1, .int x), (2, .int (nI 4))] [] u7 0 0 _
  refine ST.lift (fun _ _ k => T_iinc (x := nI 2) (L' := [(3, .int (nI 1)), (0, .ref b), (1, .int x), (2, .int (nI 4))]) d_By_putNumber_18 (by decide) rfl (by rw [show nI 2 + Int32.ofInt (-1) = nI 1 by decide]; rfl) k) ?_
  refine ST.lift (fun _ _ k => T_goto (tgt := 4) d_By_putNumber_21 rfl k) ?_
  refine ST.lift (fun _ _ k => T_iload_n d_By_putNumber_4 rfl k) ?_
  refine S_if_ltN d_By_putNumber_5 rfl (by omega) (fun c => by first | exact absurd c (by omega) | exact c.elim | exact absurd c (by decide) | exact absurd (by assumption) c | exact absurd c (by assumption)) (fun _ => ?_)
  refine ST.lift (fun _ _ k => T_aload_n (v := .ref b) d_By_putNumber_8 rfl (Or.inr ⟨_, rfl⟩) k) ?_
  refine ST.lift (fun _ _ k => T_iload_n d_By_putNumber_9 rfl k) ?_
  refine ST.lift (fun _ _ k => T_bipush (v := nI 8) d_By_putNumber_10 (by decide) k) ?_
  refine ST.lift (fun _ _ k => T_iload_n d_By_putNumber_12 rfl k) ?_
  refine S_imulN d_By_putNumber_13 ?_
  refine S_topi (y := nI 8) (by decide) ?_
  refine ST.lift (fun _ _ k => T_iushr d_By_putNumber_14 k) (S_anyi fun z11 => ?_)
  refine S_virtual (as := [.int z11]) (rest := []) (b := b) d_By_putNumber_15 rfl (jw_By_putByte.jo (by decide)) lm_By_27 ji_By_putByte js_By_putByte (y_b.1 _) rfl rfl rfl (Nat.le_of_ble_eq_true rfl) (by decide) (by decide) (c_By_putByte G u7 b bd bc bj y_b z11 hv8) (fun r u12 hq => ?_)
  obtain ⟨hr, hv13, hm14⟩ := hq
  rw [hr]
  clear hr r
  have hm15 := hm10.go hm14 (by intro i hi; simp only [List.mem_cons, List.not_mem_nil, or_false] at hi ⊢ <;> omega)
  show ST G mi_By_putNumber 18 [(3, .int (nI 1)), (0, .ref b), (1, .int x), (2, .int (nI 4))] [] u12 0 0 _
  refine ST.lift (fun _ _ k => T_iinc (x := nI 1) (L' := [(3, .int (nI 0)), (0, .ref b), (1, .int x), (2, .int (nI 4))]) d_By_putNumber_18 (by decide) rfl (by rw [show nI 1 + Int32.ofInt (-1) = nI 0 by decide]; rfl) k) ?_
  refine ST.lift (fun _ _ k => T_goto (tgt := 4) d_By_putNumber_21 rfl k) ?_
  refine ST.lift (fun _ _ k => T_iload_n d_By_putNumber_4 rfl k) ?_
  refine S_if_ltN d_By_putNumber_5 rfl (by omega) (fun c => by first | exact absurd c (by omega) | exact c.elim | exact absurd c (by decide) | exact absurd (by assumption) c | exact absurd c (by assumption)) (fun _ => ?_)
  refine ST.lift (fun _ _ k => T_aload_n (v := .ref b) d_By_putNumber_8 rfl (Or.inr ⟨_, rfl⟩) k) ?_
  refine ST.lift (fun _ _ k => T_iload_n d_By_putNumber_9 rfl k) ?_
  refine ST.lift (fun _ _ k => T_bipush (v := nI 8) d_By_putNumber_10 (by decide) k) ?_
  refine ST.lift (fun _ _ k => T_iload_n d_By_putNumber_12 rfl k) ?_
  refine S_imulN d_By_putNumber_13 ?_
  refine S_topi (y := nI 0) (by decide) ?_
  refine ST.lift (fun _ _ k => T_iushr d_By_putNumber_14 k) (S_anyi fun z16 => ?_)
  refine S_virtual (as := [.int z16]) (rest := []) (b := b) d_By_putNumber_15 rfl (jw_By_putByte.jo (by decide)) lm_By_27 ji_By_putByte js_By_putByte (y_b.1 _) rfl rfl rfl (Nat.le_of_ble_eq_true rfl) (by decide) (by decide) (c_By_putByte G u12 b bd bc bj y_b z16 hv13) (fun r u17 hq => ?_)
  obtain ⟨hr, hv18, hm19⟩ := hq
  rw [hr]
  clear hr r
  have hm20 := hm15.go hm19 (by intro i hi; simp only [List.mem_cons, List.not_mem_nil, or_false] at hi ⊢ <;> omega)
  show ST G mi_By_putNumber 18 [(3, .int (nI 0)), (0, .ref b), (1, .int x), (2, .int (nI 4))] [] u17 0 0 _
  refine S_iincD (a := 0) (L' := [(3, .int (nI 0 - 1)), (0, .ref b), (1, .int x), (2, .int (nI 4))]) d_By_putNumber_18 (by decide) rfl rfl ?_
  refine ST.lift (fun _ _ k => T_goto (tgt := 4) d_By_putNumber_21 rfl k) ?_
  refine ST.lift (fun _ _ k => T_iload_n d_By_putNumber_4 rfl k) ?_
  refine S_if_ltD d_By_putNumber_5 rfl (by omega) (fun _ => ?_) (fun _ h => by omega)
  exact S_vret d_By_putNumber_24 rfl (by decide) (by decide) (hQ _ hv18 hm20)
set_option maxRecDepth 100000 in
set_option maxHeartbeats 4000000 in
theorem c_By_putZeros (G : GX) (v : Nat → Int32) (b bd bc bj : Nat) (y_b : isBy b bd bc bj) (n : Nat) (b_n : n ≤ 1000) (hv : okv v) : CS G mi_By_putZeros [.ref b, .int (nI n)] v (fun r v' => r = none ∧ okv v' ∧ mdf [bj] v v') := by
  refine CS.of (by decide) (Nat.le_of_ble_eq_true rfl) ?_
  generalize hQe : (fun (r : Option Value) (v' : Nat → Int32) => r = none ∧ okv v' ∧ mdf [bj] v v') = Q
  have hQ : ∀ u, okv u → mdf [bj] v u → Q none u := by rw [← hQe]; exact fun u h1 h2 => ⟨rfl, h1, h2⟩
  clear hQe
  have hm : mdf [bj] v v := mdf.rf
  have l_b := y_b.2.2.2.2.2
  show ST G mi_By_putZeros 0 [(0, .ref b), (1, .int (nI n))] [] v 0 0 Q
  refine ST.lift (fun _ _ k => T_iconst (v := nI 0) d_By_putZeros_0 (by decide) k) ?_
  refine ST.lift (fun _ _ k => T_istore_n (L' := [(2, .int (nI 0)), (0, .ref b), (1, .int (nI n))]) d_By_putZeros_1 (by decide) rfl k) ?_
  have lp5 : ∀ (n3 k1 : Nat) (u2 : Nat → Int32) (hv_u2 : okv u2) (hm_u2 : mdf [bj] v u2), n - k1 = n3 → 0 ≤ k1 ∧ k1 ≤ 0 + n → ST G mi_By_putZeros 2 [(2, .int (nI k1)), (0, .ref b), (1, .int (nI n))] [] u2 0 0 Q := by
    intro n3
    induction n3 using Nat.strongRecOn with
    | _ n3 ih4 =>
      intro k1 u2 hv_u2 hm_u2 h6 h7
      refine ST.lift (fun _ _ k => T_iload_n d_By_putZeros_2 rfl k) ?_
      refine ST.lift (fun _ _ k => T_iload_n d_By_putZeros_3 rfl k) ?_
      refine S_icmp_geN d_By_putZeros_4 rfl (by omega) (by omega) (fun c8 => ?_) (fun c8 => ?_)
      · exact S_vret d_By_putZeros_18 rfl (by decide) (by decide) (hQ _ hv_u2 hm_u2)
      · refine ST.lift (fun _ _ k => T_aload_n (v := .ref b) d_By_putZeros_7 rfl (Or.inr ⟨_, rfl⟩) k) ?_
        refine ST.lift (fun _ _ k => T_iconst (v := nI 0) d_By_putZeros_8 (by decide) k) ?_
        refine S_virtual (as := [.int (nI 0)]) (rest := []) (b := b) d_By_putZeros_9 rfl (jw_By_putByte.jo (by decide)) lm_By_27 ji_By_putByte js_By_putByte (y_b.1 _) rfl rfl rfl (Nat.le_of_ble_eq_true rfl) (by decide) (by decide) (c_By_putByte G u2 b bd bc bj y_b (nI 0) hv_u2) (fun r u9 hq => ?_)
        obtain ⟨hr, hv10, hm11⟩ := hq
        rw [hr]
        clear hr r
        have hm12 := hm_u2.go hm11 (by intro i hi; simp only [List.mem_cons, List.not_mem_nil, or_false] at hi ⊢ <;> omega)
        show ST G mi_By_putZeros 12 [(2, .int (nI k1)), (0, .ref b), (1, .int (nI n))] [] u9 0 0 _
        refine S_iincN (a := k1) (b := 1) (L' := [(2, .int (nI (k1 + 1))), (0, .ref b), (1, .int (nI n))]) d_By_putZeros_12 (by decide) rfl rfl rfl ?_
        refine ST.lift (fun _ _ k => T_goto (tgt := 2) d_By_putZeros_15 rfl k) ?_
        exact ih4 (n - (k1 + 1)) (by omega) (k1 + 1)  u9 hv10 hm12 rfl (by omega)
  exact lp5 _ 0  v hv hm rfl (by omega)
set_option maxRecDepth 100000 in
set_option maxHeartbeats 4000000 in
theorem c_By_endsLike (G : GX) (v : Nat → Int32) (b bd bc bj : Nat) (y_b : isBy b bd bc bj) (pos : Nat) (b_pos : pos ≤ 1000) (oth m : Nat) (w_oth : K0 ≤ oth) (a_oth : aB oth m) (l_oth : m ≤ 2000) (opos : Nat) (b_opos : opos ≤ 1000) (hv : okv v) : CS G mi_By_endsLike [.ref b, .int (nI pos), .ref oth, .int (nI opos)] v (fun r v' => ∃ z : Nat, z ≤ 1 ∧ r = some (.int (nI z)) ∧ okv v' ∧ mdf [] v v') := by
  refine CS.of (by decide) (Nat.le_of_ble_eq_true rfl) ?_
  generalize hQe : (fun (r : Option Value) (v' : Nat → Int32) => ∃ z : Nat, z ≤ 1 ∧ r = some (.int (nI z)) ∧ okv v' ∧ mdf [] v v') = Q
  have hQ : ∀ (z : Nat) (u : Nat → Int32), z ≤ 1 → okv u → mdf [] v u → Q (some (.int (nI z))) u := by rw [← hQe]; exact fun z u hz h1 h2 => ⟨z, hz, rfl, h1, h2⟩
  clear hQe
  have hm : mdf [] v v := mdf.rf
  have l_b := y_b.2.2.2.2.2
  show ST G mi_By_endsLike 0 [(0, .ref b), (1, .int (nI pos)), (2, .ref oth), (3, .int (nI opos))] [] v 0 0 Q
  refine ST.lift (fun _ _ k => T_iload_n d_By_endsLike_0 rfl k) ?_
  refine S_if_ltN d_By_endsLike_1 rfl (by omega) (fun c => by first | exact absurd c (by omega) | exact c.elim | exact absurd c (by decide) | exact absurd (by assumption) c | exact absurd c (by assumption)) (fun _ => ?_)
  refine ST.lift (fun _ _ k => T_iload_n d_By_endsLike_4 rfl k) ?_
  refine S_if_ltN d_By_endsLike_5 rfl (by omega) (fun c => by first | exact absurd c (by omega) | exact c.elim | exact absurd c (by decide) | exact absurd (by assumption) c | exact absurd c (by assumption)) (fun _ => ?_)
  refine ST.lift (fun _ _ k => T_iload_n d_By_endsLike_8 rfl k) ?_
  refine ST.lift (fun _ _ k => T_aload_n (v := .ref b) d_By_endsLike_9 rfl (Or.inr ⟨_, rfl⟩) k) ?_
  obtain ⟨k1, hk1, ek1⟩ := hv.get (j := bj) (c := bc) y_b.2.2.2.2.1
  refine S_getfield d_By_endsLike_10 fg_By_13 (y_b.1 _) rfl ?_
  refine S_topi (y := nI k1) (ek1) ?_
  refine S_iaddN d_By_endsLike_13 ?_
  refine ST.lift (fun _ _ k => T_iload_n d_By_endsLike_14 rfl k) ?_
  rcases Nat.lt_or_ge (opos + k1) pos with c2 | c2
  · refine ST.lift (fun _ _ k => T_isub d_By_endsLike_15 k) (S_anyi fun z3 => ?_)
    refine ST.lift (fun _ _ k => T_aload_n (v := .ref oth) d_By_endsLike_16 rfl (Or.inr ⟨_, rfl⟩) k) ?_
    refine S_alenB d_By_endsLike_17 a_oth ?_
    refine S_icmp_le d_By_endsLike_18 rfl (fun c4 => ?_) (fun c4 => ?_)
    · refine ST.lift (fun _ _ k => T_iconst (v := nI 0) d_By_endsLike_23 (by decide) k) ?_
      refine ST.lift (fun _ _ k => T_istore (L' := [(4, .int (nI 0)), (0, .ref b), (1, .int (nI pos)), (2, .ref oth), (3, .int (nI opos))]) d_By_endsLike_24 (by decide) rfl k) ?_
      refine ST.lift (fun _ _ k => T_iload_n d_By_endsLike_26 rfl k) ?_
      refine ST.lift (fun _ _ k => T_istore (L' := [(5, .int (nI pos)), (4, .int (nI 0)), (0, .ref b), (1, .int (nI pos)), (2, .ref oth), (3, .int (nI opos))]) d_By_endsLike_27 (by decide) rfl k) ?_
      have lp9 : ∀ (n7 k5 : Nat) (z6 : Int32), k1 - k5 = n7 → pos ≤ k5 ∧ k5 ≤ pos + k1 → ST G mi_By_endsLike 29 [(5, .int (nI k5)), (4, .int z6), (0, .ref b), (1, .int (nI pos)), (2, .ref oth), (3, .int (nI opos))] [] v 0 0 Q := by
        intro n7
        induction n7 using Nat.strongRecOn with
        | _ n7 ih8 =>
          intro k5 z6 h10 h11
          refine ST.lift (fun _ _ k => T_iload d_By_endsLike_29 rfl k) ?_
          refine ST.lift (fun _ _ k => T_aload_n (v := .ref b) d_By_endsLike_31 rfl (Or.inr ⟨_, rfl⟩) k) ?_
          refine S_getfield d_By_endsLike_32 fg_By_13 (y_b.1 _) rfl ?_
          refine S_topi (y := nI k1) (ek1) ?_
          refine S_icmp_geN d_By_endsLike_35 rfl (by omega) (by omega) (fun c12 => ?_) (fun c12 => ?_)
          · refine ST.lift (fun _ _ k => T_iload d_By_endsLike_65 rfl k) ?_
            refine S_if_ne d_By_endsLike_67 rfl (fun c17 => ?_) (fun c17 => ?_)
            · refine ST.lift (fun _ _ k => T_iconst (v := nI 0) d_By_endsLike_74 (by decide) k) ?_
              exact S_ret d_By_endsLike_75 rfl (nar_z (by omega)) (by decide) (by decide) (hQ 0 _ (by omega) hv hm)
            · refine ST.lift (fun _ _ k => T_iconst (v := nI 1) d_By_endsLike_70 (by decide) k) ?_
              refine ST.lift (fun _ _ k => T_goto (tgt := 75) d_By_endsLike_71 rfl k) ?_
              exact S_ret d_By_endsLike_75 rfl (nar_z (by omega)) (by decide) (by decide) (hQ 1 _ (by omega) hv hm)
          · refine ST.lift (fun _ _ k => T_iload d_By_endsLike_38 rfl k) ?_
            refine ST.lift (fun _ _ k => T_aload_n (v := .ref b) d_By_endsLike_40 rfl (Or.inr ⟨_, rfl⟩) k) ?_
            refine S_getfield d_By_endsLike_41 fg_By_7 (y_b.1 _) rfl ?_
            refine ST.lift (fun _ _ k => T_iload d_By_endsLike_44 rfl k) ?_
            refine S_baload d_By_endsLike_46 y_b.2.1 (vp_in_nI (by omega) (by omega)) (fun z18 hz18 => ?_)
            refine ST.lift (fun _ _ k => T_aload_n (v := .ref oth) d_By_endsLike_47 rfl (Or.inr ⟨_, rfl⟩) k) ?_
            refine ST.lift (fun _ _ k => T_iload_n d_By_endsLike_48 rfl k) ?_
            refine ST.lift (fun _ _ k => T_iload d_By_endsLike_49 rfl k) ?_
            refine S_iaddN d_By_endsLike_51 ?_
            refine ST.lift (fun _ _ k => T_iload_n d_By_endsLike_52 rfl k) ?_
            refine S_isubN d_By_endsLike_53 (by omega) ?_
            refine S_baload d_By_endsLike_54 a_oth (vp_in_nI (by omega) (by omega)) (fun z19 hz19 => ?_)
            refine ST.lift (fun _ _ k => T_ixor d_By_endsLike_55 k) (S_anyi fun z20 => ?_)
            refine ST.lift (fun _ _ k => T_ior d_By_endsLike_56 k) (S_anyi fun z21 => ?_)
            refine ST.lift (fun _ _ k => T_istore (L' := [(4, .int z21), (5, .int (nI k5)), (0, .ref b), (1, .int (nI pos)), (2, .ref oth), (3, .int (nI opos))]) d_By_endsLike_57 (by decide) rfl k) ?_
            refine S_iincN (a := k5) (b := 1) (L' := [(5, .int (nI (k5 + 1))), (4, .int z21), (0, .ref b), (1, .int (nI pos)), (2, .ref oth), (3, .int (nI opos))]) d_By_endsLike_59 (by decide) rfl rfl rfl ?_
            refine ST.lift (fun _ _ k => T_goto (tgt := 29) d_By_endsLike_62 rfl k) ?_
            exact ih8 (k1 - (k5 + 1)) (by omega) (k5 + 1) z21 rfl (by omega)
      exact lp9 _ pos (nI 0) rfl (by omega)
    · refine ST.lift (fun _ _ k => T_iconst (v := nI 0) d_By_endsLike_21 (by decide) k) ?_
      exact S_ret d_By_endsLike_22 rfl (nar_z (by omega)) (by decide) (by decide) (hQ 0 _ (by omega) hv hm)
  · refine S_isubN d_By_endsLike_15 (by omega) ?_
    refine ST.lift (fun _ _ k => T_aload_n (v := .ref oth) d_By_endsLike_16 rfl (Or.inr ⟨_, rfl⟩) k) ?_
    refine S_alenB d_By_endsLike_17 a_oth ?_
    refine S_icmp_leN d_By_endsLike_18 rfl (by omega) (by omega) (fun c22 => ?_) (fun c22 => ?_)
    · refine ST.lift (fun _ _ k => T_iconst (v := nI 0) d_By_endsLike_23 (by decide) k) ?_
      refine ST.lift (fun _ _ k => T_istore (L' := [(4, .int (nI 0)), (0, .ref b), (1, .int (nI pos)), (2, .ref oth), (3, .int (nI opos))]) d_By_endsLike_24 (by decide) rfl k) ?_
      refine ST.lift (fun _ _ k => T_iload_n d_By_endsLike_26 rfl k) ?_
      refine ST.lift (fun _ _ k => T_istore (L' := [(5, .int (nI pos)), (4, .int (nI 0)), (0, .ref b), (1, .int (nI pos)), (2, .ref oth), (3, .int (nI opos))]) d_By_endsLike_27 (by decide) rfl k) ?_
      have lp27 : ∀ (n25 k23 : Nat) (z24 : Int32), k1 - k23 = n25 → pos ≤ k23 ∧ k23 ≤ pos + k1 → ST G mi_By_endsLike 29 [(5, .int (nI k23)), (4, .int z24), (0, .ref b), (1, .int (nI pos)), (2, .ref oth), (3, .int (nI opos))] [] v 0 0 Q := by
        intro n25
        induction n25 using Nat.strongRecOn with
        | _ n25 ih26 =>
          intro k23 z24 h28 h29
          refine ST.lift (fun _ _ k => T_iload d_By_endsLike_29 rfl k) ?_
          refine ST.lift (fun _ _ k => T_aload_n (v := .ref b) d_By_endsLike_31 rfl (Or.inr ⟨_, rfl⟩) k) ?_
          refine S_getfield d_By_endsLike_32 fg_By_13 (y_b.1 _) rfl ?_
          refine S_topi (y := nI k1) (ek1) ?_
          refine S_icmp_geN d_By_endsLike_35 rfl (by omega) (by omega) (fun c30 => ?_) (fun c30 => ?_)
          · refine ST.lift (fun _ _ k => T_iload d_By_endsLike_65 rfl k) ?_
            refine S_if_ne d_By_endsLike_67 rfl (fun c35 => ?_) (fun c35 => ?_)
            · refine ST.lift (fun _ _ k => T_iconst (v := nI 0) d_By_endsLike_74 (by decide) k) ?_
              exact S_ret d_By_endsLike_75 rfl (nar_z (by omega)) (by decide) (by decide) (hQ 0 _ (by omega) hv hm)
            · refine ST.lift (fun _ _ k => T_iconst (v := nI 1) d_By_endsLike_70 (by decide) k) ?_
              refine ST.lift (fun _ _ k => T_goto (tgt := 75) d_By_endsLike_71 rfl k) ?_
              exact S_ret d_By_endsLike_75 rfl (nar_z (by omega)) (by decide) (by decide) (hQ 1 _ (by omega) hv hm)
          · refine ST.lift (fun _ _ k => T_iload d_By_endsLike_38 rfl k) ?_
            refine ST.lift (fun _ _ k => T_aload_n (v := .ref b) d_By_endsLike_40 rfl (Or.inr ⟨_, rfl⟩) k) ?_
            refine S_getfield d_By_endsLike_41 fg_By_7 (y_b.1 _) rfl ?_
            refine ST.lift (fun _ _ k => T_iload d_By_endsLike_44 rfl k) ?_
            refine S_baload d_By_endsLike_46 y_b.2.1 (vp_in_nI (by omega) (by omega)) (fun z36 hz36 => ?_)
            refine ST.lift (fun _ _ k => T_aload_n (v := .ref oth) d_By_endsLike_47 rfl (Or.inr ⟨_, rfl⟩) k) ?_
            refine ST.lift (fun _ _ k => T_iload_n d_By_endsLike_48 rfl k) ?_
            refine ST.lift (fun _ _ k => T_iload d_By_endsLike_49 rfl k) ?_
            refine S_iaddN d_By_endsLike_51 ?_
            refine ST.lift (fun _ _ k => T_iload_n d_By_endsLike_52 rfl k) ?_
            refine S_isubN d_By_endsLike_53 (by omega) ?_
            refine S_baload d_By_endsLike_54 a_oth (vp_in_nI (by omega) (by omega)) (fun z37 hz37 => ?_)
            refine ST.lift (fun _ _ k => T_ixor d_By_endsLike_55 k) (S_anyi fun z38 => ?_)
            refine ST.lift (fun _ _ k => T_ior d_By_endsLike_56 k) (S_anyi fun z39 => ?_)
            refine ST.lift (fun _ _ k => T_istore (L' := [(4, .int z39), (5, .int (nI k23)), (0, .ref b), (1, .int (nI pos)), (2, .ref oth), (3, .int (nI opos))]) d_By_endsLike_57 (by decide) rfl k) ?_
            refine S_iincN (a := k23) (b := 1) (L' := [(5, .int (nI (k23 + 1))), (4, .int z39), (0, .ref b), (1, .int (nI pos)), (2, .ref oth), (3, .int (nI opos))]) d_By_endsLike_59 (by decide) rfl rfl rfl ?_
            refine ST.lift (fun _ _ k => T_goto (tgt := 29) d_By_endsLike_62 rfl k) ?_
            exact ih26 (k1 - (k23 + 1)) (by omega) (k23 + 1) z39 rfl (by omega)
      exact lp27 _ pos (nI 0) rfl (by omega)
    · refine ST.lift (fun _ _ k => T_iconst (v := nI 0) d_By_endsLike_21 (by decide) k) ?_
      exact S_ret d_By_endsLike_22 rfl (nar_z (by omega)) (by decide) (by decide) (hQ 0 _ (by omega) hv hm)

set_option maxRecDepth 100000 in
set_option maxHeartbeats 4000000 in
theorem c_By_putNumber_4x (G : GX) (v : Nat → Int32) (b bd bc bj : Nat) (y_b : isBy b bd bc bj) (x : Int32) (k : Nat) (ebj : v bj = nI k) (hk : k + 4 ≤ bc) (hv : okv v) : CS G mi_By_putNumber [.ref b, .int x, .int (nI 4)] v (fun r v' => r = none ∧ okv v' ∧ mdf [bj] v v' ∧ v' bj = nI (k + 4)) := by
  refine CS.of (by decide) (Nat.le_of_ble_eq_true rfl) ?_
  generalize hQe : (fun (r : Option Value) (v' : Nat → Int32) => r = none ∧ okv v' ∧ mdf [bj] v v' ∧ v' bj = nI (k + 4)) = Q
  have hQ : ∀ u, okv u → mdf [bj] v u → u bj = nI (k + 4) → Q none u := by rw [← hQe]; exact fun u h1 h2 f0 => ⟨rfl, h1, h2, f0⟩
  clear hQe
  have hm : mdf [bj] v v := mdf.rf
  have l_b := y_b.2.2.2.2.2
  show ST G mi_By_putNumber 0 [(0, .ref b), (1, .int x), (2, .int (nI 4))] [] v 0 0 Q
  refine ST.lift (fun _ _ k => T_iload_n d_By_putNumber_0 rfl k) ?_
  refine ST.lift (fun _ _ k => T_iconst (v := nI 1) d_By_putNumber_1 (by decide) k) ?_
  refine S_isubN d_By_putNumber_2 (by omega) ?_
  refine S_topi (y := nI 3) (by decide) ?_
  refine ST.lift (fun _ _ k => T_istore_n (L' := [(3, .int (nI 3)), (0, .ref b), (1, .int x), (2, .int (nI 4))]) d_By_putNumber_3 (by decide) rfl k) ?_
  refine ST.lift (fun _ _ k => T_iload_n d_By_putNumber_4 rfl k) ?_
  refine S_if_ltN d_By_putNumber_5 rfl (by omega) (fun c => by first | exact absurd c (by omega) | exact c.elim | exact absurd c (by decide) | exact absurd (by assumption) c | exact absurd c (by assumption)) (fun _ => ?_)
  refine ST.lift (fun _ _ k => T_aload_n (v := .ref b) d_By_putNumber_8 rfl (Or.inr ⟨_, rfl⟩) k) ?_
  refine ST.lift (fun _ _ k => T_iload_n d_By_putNumber_9 rfl k) ?_
  refine ST.lift (fun _ _ k => T_bipush (v := nI 8) d_By_putNumber_10 (by decide) k) ?_
  refine ST.lift (fun _ _ k => T_iload_n d_By_putNumber_12 rfl k) ?_
  refine S_imulN d_By_putNumber_13 ?_
  refine S_topi (y := nI 24) (by decide) ?_
  refine ST.lift (fun _ _ k => T_iushr d_By_putNumber_14 k) (S_anyi fun z1 => ?_)
  refine S_virtual (as := [.int z1]) (rest := []) (b := b) d_By_putNumber_15 rfl (jw_By_putByte.jo (by decide)) lm_By_27 ji_By_putByte js_By_putByte (y_b.1 _) rfl rfl rfl (Nat.le_of_ble_eq_true rfl) (by decide) (by decide) (c_By_putByte_ex G v b bd bc bj y_b z1 k ebj (by omega) hv) (fun r v' hq => ?_)
  rw [hq.1, hq.2]
  clear hq r v'
  show ST G mi_By_putNumber 18 [(3, .int (nI 3)), (0, .ref b), (1, .int x), (2, .int (nI 4))] [] (va_up v bj (nI (k + 1))) 0 0 _
  have hv3 := hv.up (j := bj) (c := bc) (k := (k + 1)) y_b.2.2.2.2.1 (by omega)
  have hm4 := hm.go (mdf.up (v := v) (j := bj) (x := (nI (k + 1)))) (by intro i hi; simp only [List.mem_cons, List.not_mem_nil, or_false] at hi ⊢ <;> omega)
  have e_u2 : (va_up v bj (nI (k + 1))) bj = (nI (k + 1)) := by simp [va_up]
  generalize va_up v bj (nI (k + 1)) = u2 at hv3 hm4 e_u2 ⊢
  refine ST.lift (fun _ _ k => T_iinc (x := nI 3) (L' := [(3, .int (nI 2)), (0, .ref b), (1, .int x), (2, .int (nI 4))]) d_By_putNumber_18 (by decide) rfl (by rw [show nI 3 + Int32.ofInt (-1) = nI 2 by decide]; rfl) k) ?_
  refine ST.lift (fun _ _ k => T_goto (tgt := 4) d_By_putNumber_21 rfl k) ?_
  refine ST.lift (fun _ _ k => T_iload_n d_By_putNumber_4 rfl k) ?_
  refine S_if_ltN d_By_putNumber_5 rfl (by omega) (fun c => by first | exact absurd c (by omega) | exact c.elim | exact absurd c (by decide) | exact absurd (by assumption) c | exact absurd c (by assumption)) (fun _ => ?_)
  refine ST.lift (fun _ _ k => T_aload_n (v := .ref b) d_By_putNumber_8 rfl (Or.inr ⟨_, rfl⟩) k) ?_
  refine ST.lift (fun _ _ k => T_iload_n d_By_putNumber_9 rfl k) ?_
  refine ST.lift (fun _ _ k => T_bipush (v := nI 8) d_By_putNumber_10 (by decide) k) ?_
  refine ST.lift (fun _ _ k => T_iload_n d_By_putNumber_12 rfl k) ?_
  refine S_imulN d_By_putNumber_13 ?_
  refine S_topi (y := nI 16) (by decide) ?_
  refine ST.lift (fun _ _ k => T_iushr d_By_putNumber_14 k) (S_anyi fun z5 => ?_)
  refine S_virtual (as := [.int z5]) (rest := []) (b := b) d_By_putNumber_15 rfl (jw_By_putByte.jo (by decide)) lm_By_27 ji_By_putByte js_By_putByte (y_b.1 _) rfl rfl rfl (Nat.le_of_ble_eq_true rfl) (by decide) (by decide) (c_By_putByte_ex G u2 b bd bc bj y_b z5 (k + 1) e_u2 (by omega) hv3) (fun r v' hq => ?_)
  rw [hq.1, hq.2]
  clear hq r v'
  show ST G mi_By_putNumber 18 [(3, .int (nI 2)), (0, .ref b), (1, .int x), (2, .int (nI 4))] [] (va_up u2 bj (nI ((k + 1) + 1))) 0 0 _
  have hv7 := hv3.up (j := bj) (c := bc) (k := ((k + 1) + 1)) y_b.2.2.2.2.1 (by omega)
  have hm8 := hm4.go (mdf.up (v := u2) (j := bj) (x := (nI ((k + 1) + 1)))) (by intro i hi; simp only [List.mem_cons, List.not_mem_nil, or_false] at hi ⊢ <;> omega)
  have e_u6 : (va_up u2 bj (nI ((k + 1) + 1))) bj = (nI ((k + 1) + 1)) := by simp [va_up]
  generalize va_up u2 bj (nI ((k + 1) + 1)) = u6 at hv7 hm8 e_u6 ⊢
  refine ST.lift (fun _ _ k => T_iinc (x := nI 2) (L' := [(3, .int (nI 1)), (0, .ref b), (1, .int x), (2, .int (nI 4))]) d_By_putNumber_18 (by decide) rfl (by rw [show nI 2 + Int32.ofInt (-1) = nI 1 by decide]; rfl) k) ?_
  refine ST.lift (fun _ _ k => T_goto (tgt := 4) d_By_putNumber_21 rfl k) ?_
  refine ST.lift (fun _ _ k => T_iload_n d_By_putNumber_4 rfl k) ?_
  refine S_if_ltN d_By_putNumber_5 rfl (by omega) (fun c => by first | exact absurd c (by omega) | exact c.elim | exact absurd c (by decide) | exact absurd (by assumption) c | exact absurd c (by assumption)) (fun _ => ?_)
  refine ST.lift (fun _ _ k => T_aload_n (v := .ref b) d_By_putNumber_8 rfl (Or.inr ⟨_, rfl⟩) k) ?_
  refine ST.lift (fun _ _ k => T_iload_n d_By_putNumber_9 rfl k) ?_
  refine ST.lift (fun _ _ k => T_bipush (v := nI 8) d_By_putNumber_10 (by decide) k) ?_
  refine ST.lift (fun _ _ k => T_iload_n d_By_putNumber_12 rfl k) ?_
  refine S_imulN d_By_putNumber_13 ?_
  refine S_topi (y := nI 8) (by decide) ?_
  refine ST.lift (fun _ _ k => T_iushr d_By_putNumber_14 k) (S_anyi fun z9 => ?_)
  refine S_virtual (as := [.int z9]) (rest := []) (b := b) d_By_putNumber_15 rfl (jw_By_putByte.jo (by decide)) lm_By_27 ji_By_putByte js_By_putByte (y_b.1 _) rfl rfl rfl (Nat.le_of_ble_eq_true rfl) (by decide) (by decide) (c_By_putByte_ex G u6 b bd bc bj y_b z9 ((k + 1) + 1) e_u6 (by omega) hv7) (fun r v' hq => ?_)
  rw [hq.1, hq.2]
  clear hq r v'
  show ST G mi_By_putNumber 18 [(3, .int (nI 1)), (0, .ref b), (1, .int x), (2, .int (nI 4))] [] (va_up u6 bj (nI (((k + 1) + 1) + 1))) 0 0 _
  have hv11 := hv7.up (j := bj) (c := bc) (k := (((k + 1) + 1) + 1)) y_b.2.2.2.2.1 (by omega)
  have hm12 := hm8.go (mdf.up (v := u6) (j := bj) (x := (nI (((k + 1) + 1) + 1)))) (by intro i hi; simp only [List.mem_cons, List.not_mem_nil, or_false] at hi ⊢ <;> omega)
  have e_u10 : (va_up u6 bj (nI (((k + 1) + 1) + 1))) bj = (nI (((k + 1) + 1) + 1)) := by simp [va_up]
  generalize va_up u6 bj (nI (((k + 1) + 1) + 1)) = u10 at hv11 hm12 e_u10 ⊢
  refine ST.lift (fun _ _ k => T_iinc (x := nI 1) (L' := [(3, .int (nI 0)), (0, .ref b), (1, .int x), (2, .int (nI 4))]) d_By_putNumber_18 (by decide) rfl (by rw [show nI 1 + Int32.ofInt (-1) = nI 0 by decide]; rfl) k) ?_
  refine ST.lift (fun _ _ k => T_goto (tgt := 4) d_By_putNumber_21 rfl k) ?_
  refine ST.lift (fun _ _ k => T_iload_n d_By_putNumber_4 rfl k) ?_
  refine S_if_ltN d_By_putNumber_5 rfl (by omega) (fun c => by first | exact absurd c (by omega) | exact c.elim | exact absurd c (by decide) | exact absurd (by assumption) c | exact absurd c (by assumption)) (fun _ => ?_)
  refine ST.lift (fun _ _ k => T_aload_n (v := .ref b) d_By_putNumber_8 rfl (Or.inr ⟨_, rfl⟩) k) ?_
  refine ST.lift (fun _ _ k => T_iload_n d_By_putNumber_9 rfl k) ?_
  refine ST.lift (fun _ _ k => T_bipush (v := nI 8) d_By_putNumber_10 (by decide) k) ?_
  refine ST.lift (fun _ _ k => T_iload_n d_By_putNumber_12 rfl k) ?_
  refine S_imulN d_By_putNumber_13 ?_
  refine S_topi (y := nI 0) (by decide) ?_
  refine ST.lift (fun _ _ k => T_iushr d_By_putNumber_14 k) (S_anyi fun z13 => ?_)
  refine S_virtual (as := [.int z13]) (rest := []) (b := b) d_By_putNumber_15 rfl (jw_By_putByte.jo (by decide)) lm_By_27 ji_By_putByte js_By_putByte (y_b.1 _) rfl rfl rfl (Nat.le_of_ble_eq_true rfl) (by decide) (by decide) (c_By_putByte_ex G u10 b bd bc bj y_b z13 (((k + 1) + 1) + 1) e_u10 (by omega) hv11) (fun r v' hq => ?_)
  rw [hq.1, hq.2]
  clear hq r v'
  show ST G mi_By_putNumber 18 [(3, .int (nI 0)), (0, .ref b), (1, .int x), (2, .int (nI 4))] [] (va_up u10 bj (nI ((((k + 1) + 1) + 1) + 1))) 0 0 _
  have hv15 := hv11.up (j := bj) (c := bc) (k := ((((k + 1) + 1) + 1) + 1)) y_b.2.2.2.2.1 (by omega)
  have hm16 := hm12.go (mdf.up (v := u10) (j := bj) (x := (nI ((((k + 1) + 1) + 1) + 1)))) (by intro i hi; simp only [List.mem_cons, List.not_mem_nil, or_false] at hi ⊢ <;> omega)
  have e_u14 : (va_up u10 bj (nI ((((k + 1) + 1) + 1) + 1))) bj = (nI ((((k + 1) + 1) + 1) + 1)) := by simp [va_up]
  generalize va_up u10 bj (nI ((((k + 1) + 1) + 1) + 1)) = u14 at hv15 hm16 e_u14 ⊢
  refine S_iincD (a := 0) (L' := [(3, .int (nI 0 - 1)), (0, .ref b), (1, .int x), (2, .int (nI 4))]) d_By_putNumber_18 (by decide) rfl rfl ?_
  refine ST.lift (fun _ _ k => T_goto (tgt := 4) d_By_putNumber_21 rfl k) ?_
  refine ST.lift (fun _ _ k => T_iload_n d_By_putNumber_4 rfl k) ?_
  refine S_if_ltD d_By_putNumber_5 rfl (by omega) (fun _ => ?_) (fun _ h => by omega)
  exact S_vret d_By_putNumber_24 rfl (by decide) (by decide) (hQ _ hv15 hm16 (e_u14.trans (congrArg nI (by omega))))
set_option maxRecDepth 100000 in
set_option maxHeartbeats 4000000 in
theorem c_By_put_x (G : GX) (v : Nat → Int32) (b bd bc bj : Nat) (y_b : isBy b bd bc bj) (src m : Nat) (w_src : K0 ≤ src) (a_src : aB src m) (l_src : m ≤ 2000) (pos : Nat) (b_pos : pos ≤ 2000) (n : Nat) (b_n : n ≤ 2000) (k : Nat) (ebj : v bj = nI k) (h1 : pos + n ≤ m) (h2 : k + n ≤ bc) (hv : okv v) : CS G mi_By_put [.ref b, .ref src, .int (nI pos), .int (nI n)] v (fun r v' => r = none ∧ okv v' ∧ mdf [bj] v v' ∧ v' bj = nI (k + n)) := by
  refine CS.of (by decide) (Nat.le_of_ble_eq_true rfl) ?_
  generalize hQe : (fun (r : Option Value) (v' : Nat → Int32) => r = none ∧ okv v' ∧ mdf [bj] v v' ∧ v' bj = nI (k + n)) = Q
  have hQ : ∀ u, okv u → mdf [bj] v u → u bj = nI (k + n) → Q none u := by rw [← hQe]; exact fun u h1 h2 f0 => ⟨rfl, h1, h2, f0⟩
  clear hQe
  have hm : mdf [bj] v v := mdf.rf
  have l_b := y_b.2.2.2.2.2
  show ST G mi_By_put 0 [(0, .ref b), (1, .ref src), (2, .int (nI pos)), (3, .int (nI n))] [] v 0 0 Q
  refine ST.lift (fun _ _ k => T_iload_n d_By_put_0 rfl k) ?_
  refine S_if_ltN d_By_put_1 rfl (by omega) (fun c => by first | exact absurd c (by omega) | exact c.elim | exact absurd c (by decide) | exact absurd (by assumption) c | exact absurd c (by assumption)) (fun _ => ?_)
  refine ST.lift (fun _ _ k => T_iload_n d_By_put_4 rfl k) ?_
  refine S_if_ltN d_By_put_5 rfl (by omega) (fun c => by first | exact absurd c (by omega) | exact c.elim | exact absurd c (by decide) | exact absurd (by assumption) c | exact absurd c (by assumption)) (fun _ => ?_)
  refine ST.lift (fun _ _ k => T_iload_n d_By_put_8 rfl k) ?_
  refine ST.lift (fun _ _ k => T_iload_n d_By_put_9 rfl k) ?_
  refine S_iaddN d_By_put_10 ?_
  refine ST.lift (fun _ _ k => T_aload_n (v := .ref src) d_By_put_11 rfl (Or.inr ⟨_, rfl⟩) k) ?_
  refine S_alenB d_By_put_12 a_src ?_
  refine S_icmp_gtN d_By_put_13 rfl (by omega) (by omega) (fun c1 => ?_) (fun c1 => ?_)
  · exact S_vret d_By_put_30 rfl (by decide) (by decide) (hQ _ hv hm (ebj.trans (congrArg nI (by omega))))
  · refine ST.lift (fun _ _ k => T_aload_n (v := .ref b) d_By_put_16 rfl (Or.inr ⟨_, rfl⟩) k) ?_
    refine S_getfield d_By_put_17 fg_By_13 (y_b.1 _) rfl ?_
    refine S_topi (y := nI k) (ebj) ?_
    refine ST.lift (fun _ _ k => T_iload_n d_By_put_20 rfl k) ?_
    refine S_iaddN d_By_put_21 ?_
    refine ST.lift (fun _ _ k => T_aload_n (v := .ref b) d_By_put_22 rfl (Or.inr ⟨_, rfl⟩) k) ?_
    refine S_getfield d_By_put_23 fg_By_7 (y_b.1 _) rfl ?_
    refine S_alenB d_By_put_26 y_b.2.1 ?_
    refine S_icmp_leN d_By_put_27 rfl (by omega) (by omega) (fun c2 => ?_) (fun c2 => ?_)
    · refine ST.lift (fun _ _ k => T_aload_n (v := .ref src) d_By_put_31 rfl (Or.inr ⟨_, rfl⟩) k) ?_
      refine ST.lift (fun _ _ k => T_iload_n d_By_put_32 rfl k) ?_
      refine ST.lift (fun _ _ k => T_aload_n (v := .ref b) d_By_put_33 rfl (Or.inr ⟨_, rfl⟩) k) ?_
      refine S_getfield d_By_put_34 fg_By_7 (y_b.1 _) rfl ?_
      refine ST.lift (fun _ _ k => T_aload_n (v := .ref b) d_By_put_37 rfl (Or.inr ⟨_, rfl⟩) k) ?_
      refine S_getfield d_By_put_38 fg_By_13 (y_b.1 _) rfl ?_
      refine S_topi (y := nI k) (ebj) ?_
      refine ST.lift (fun _ _ k => T_iload_n d_By_put_41 rfl k) ?_
      refine S_copyB d_By_put_42 lm_By_17 w_src y_b.2.2.1 a_src y_b.2.1 (by omega) (by omega) (by omega) (by omega) (by omega) (by decide) (Nat.le_of_ble_eq_true rfl) ?_
      refine ST.lift (fun _ _ k => T_aload_n (v := .ref b) d_By_put_45 rfl (Or.inr ⟨_, rfl⟩) k) ?_
      refine ST.lift (fun _ _ k => T_dup d_By_put_46 rfl k) ?_
      refine S_getfield d_By_put_47 fg_By_13 (y_b.1 _) rfl ?_
      refine S_topi (y := nI k) (ebj) ?_
      refine ST.lift (fun _ _ k => T_iload_n d_By_put_50 rfl k) ?_
      refine S_iaddN d_By_put_51 ?_
      refine S_putfield (v' := va_up v bj (nI (k + n))) d_By_put_52 (fp_By_13 _) (y_b.1 _) (Nat.le_of_ble_eq_true rfl) ⟨rfl, rfl⟩ (y_b.2.2.2.1 _ _) ?_
      have hv4 := hv.up (j := bj) (c := bc) (k := (k + n)) y_b.2.2.2.2.1 (by omega)
      have hm5 := hm.go (mdf.up (v := v) (j := bj) (x := (nI (k + n)))) (by intro i hi; simp only [List.mem_cons, List.not_mem_nil, or_false] at hi ⊢ <;> omega)
      have e_u3 : (va_up v bj (nI (k + n))) bj = (nI (k + n)) := by simp [va_up]
      generalize va_up v bj (nI (k + n)) = u3 at hv4 hm5 e_u3 ⊢
      exact S_vret d_By_put_55 rfl (by decide) (by decide) (hQ _ hv4 hm5 (e_u3.trans (congrArg nI (by omega))))
    · exact S_vret d_By_put_30 rfl (by decide) (by decide) (hQ _ hv hm (ebj.trans (congrArg nI (by omega))))
set_option maxRecDepth 100000 in
set_option maxHeartbeats 4000000 in
theorem c_By_has_n (G : GX) (v : Nat → Int32) (b bd bc bj : Nat) (y_b : isBy b bd bc bj) (i : Nat) (b_i : i < 2147483648) (k : Nat) (ebj : v bj = nI k) (hk : k ≤ bc) (hv : okv v) : CS G mi_By_has [.ref b, .int (nI i)] v (fun r v' => ∃ z : Nat, z ≤ 1 ∧ (z = 1 → i < k) ∧ r = some (.int (nI z)) ∧ okv v' ∧ mdf [] v v' ∧ v' bj = nI k) := by
  refine CS.of (by decide) (Nat.le_of_ble_eq_true rfl) ?_
  generalize hQe : (fun (r : Option Value) (v' : Nat → Int32) => ∃ z : Nat, z ≤ 1 ∧ (z = 1 → i < k) ∧ r = some (.int (nI z)) ∧ okv v' ∧ mdf [] v v' ∧ v' bj = nI k) = Q
  have hQ : ∀ (z : Nat) (u : Nat → Int32), z ≤ 1 → (z = 1 → i < k) → okv u → mdf [] v u → u bj = nI k → Q (some (.int (nI z))) u := by rw [← hQe]; exact fun z u hz hi h1 h2 f0 => ⟨z, hz, hi, rfl, h1, h2, f0⟩
  clear hQe
  have hm : mdf [] v v := mdf.rf
  have l_b := y_b.2.2.2.2.2
  show ST G mi_By_has 0 [(0, .ref b), (1, .int (nI i))] [] v 0 0 Q
  refine ST.lift (fun _ _ k => T_iload_n d_By_has_0 rfl k) ?_
  refine S_if_ltN d_By_has_1 rfl (by omega) (fun c => by first | exact absurd c (by omega) | exact c.elim | exact absurd c (by decide) | exact absurd (by assumption) c | exact absurd c (by assumption)) (fun _ => ?_)
  refine ST.lift (fun _ _ k => T_iload_n d_By_has_4 rfl k) ?_
  refine ST.lift (fun _ _ k => T_aload_n (v := .ref b) d_By_has_5 rfl (Or.inr ⟨_, rfl⟩) k) ?_
  refine S_getfield d_By_has_6 fg_By_13 (y_b.1 _) rfl ?_
  refine S_topi (y := nI k) (ebj) ?_
  refine S_icmp_geN d_By_has_9 rfl (by omega) (by omega) (fun c1 => ?_) (fun c1 => ?_)
  · refine ST.lift (fun _ _ k => T_iconst (v := nI 0) d_By_has_16 (by decide) k) ?_
    exact S_ret d_By_has_17 rfl (nar_z (by omega)) (by decide) (by decide) (hQ 0 _ (by omega) (by omega) hv hm (ebj.trans (congrArg nI (by omega))))
  · refine ST.lift (fun _ _ k => T_iconst (v := nI 1) d_By_has_12 (by decide) k) ?_
    refine ST.lift (fun _ _ k => T_goto (tgt := 17) d_By_has_13 rfl k) ?_
    exact S_ret d_By_has_17 rfl (nar_z (by omega)) (by decide) (by decide) (hQ 1 _ (by omega) (by omega) hv hm (ebj.trans (congrArg nI (by omega))))
set_option maxRecDepth 100000 in
set_option maxHeartbeats 4000000 in
theorem c_By_has_neg (G : GX) (v : Nat → Int32) (b bd bc bj : Nat) (y_b : isBy b bd bc bj) (i : Int32) (hi : i < 0) (hv : okv v) : CS G mi_By_has [.ref b, .int i] v (fun r v' => r = some (.int (nI 0)) ∧ okv v' ∧ mdf [] v v') := by
  refine CS.of (by decide) (Nat.le_of_ble_eq_true rfl) ?_
  generalize hQe : (fun (r : Option Value) (v' : Nat → Int32) => r = some (.int (nI 0)) ∧ okv v' ∧ mdf [] v v') = Q
  have hQ : ∀ u, okv u → mdf [] v u → Q (some (.int (nI 0))) u := by rw [← hQe]; exact fun u h1 h2  => ⟨rfl, h1, h2⟩
  clear hQe
  have hm : mdf [] v v := mdf.rf
  have l_b := y_b.2.2.2.2.2
  show ST G mi_By_has 0 [(0, .ref b), (1, .int i)] [] v 0 0 Q
  refine ST.lift (fun _ _ k => T_iload_n d_By_has_0 rfl k) ?_
  refine S_if_lt d_By_has_1 rfl (fun _ => ?_) (fun c => by first | exact absurd c (by omega) | exact c.elim | exact absurd c (by decide) | exact absurd (by assumption) c | exact absurd c (by assumption))
  refine ST.lift (fun _ _ k => T_iconst (v := nI 0) d_By_has_16 (by decide) k) ?_
  refine S_topi (y := nI 0) (congrArg nI (by omega)) ?_
  exact S_ret d_By_has_17 rfl (nar_z (by omega)) (by decide) (by decide) (hQ _ hv hm)
set_option maxRecDepth 100000 in
set_option maxHeartbeats 4000000 in
theorem c_Fi_save_x (G : GX) (v : Nat → Int32) (f : Nat) (a_f : aL f 10) (b bd bc bj : Nat) (y_b : isBy b bd bc bj) (k : Nat) (ebj : v bj = nI k) (hk : k + 32 ≤ bc) (hv : okv v) : CS G mi_Fi_save [.ref 78, .ref f, .ref b] v (fun r v' => r = none ∧ okv v' ∧ mdf [bj] v v' ∧ v' bj = nI (k + 32)) := by
  refine CS.of (by decide) (Nat.le_of_ble_eq_true rfl) ?_
  generalize hQe : (fun (r : Option Value) (v' : Nat → Int32) => r = none ∧ okv v' ∧ mdf [bj] v v' ∧ v' bj = nI (k + 32)) = Q
  have hQ : ∀ u, okv u → mdf [bj] v u → u bj = nI (k + 32) → Q none u := by rw [← hQe]; exact fun u h1 h2 f0 => ⟨rfl, h1, h2, f0⟩
  clear hQe
  have hm : mdf [bj] v v := mdf.rf
  have l_b := y_b.2.2.2.2.2
  show ST G mi_Fi_save 0 [(0, .ref 78), (1, .ref f), (2, .ref b)] [] v 0 0 Q
  refine ST.lift (fun _ _ k => T_aload_n (v := .ref 78) d_Fi_save_0 rfl (Or.inr ⟨_, rfl⟩) k) ?_
  refine ST.lift (fun _ _ k => T_aload_n (v := .ref f) d_Fi_save_1 rfl (Or.inr ⟨_, rfl⟩) k) ?_
  refine S_virtual (as := [.ref f]) (rest := []) (b := 78) d_Fi_save_2 rfl (jw_Fi_makeWhole.jo (by decide)) lm_Fi_43 ji_Fi_makeWhole js_Fi_makeWhole (w78 _) rfl rfl rfl (Nat.le_of_ble_eq_true rfl) (by decide) (by decide) (c_Fi_makeWhole G v f a_f) (fun r v' hq => ?_)
  rw [hq.1, hq.2]
  clear hq r v'
  show ST G mi_Fi_save 5 [(0, .ref 78), (1, .ref f), (2, .ref b)] [] v 0 0 _
  refine ST.lift (fun _ _ k => T_lconst (v := 0) d_Fi_save_5 (by decide) k) ?_
  refine ST.lift (fun _ _ k => T_lstore_n (L' := [(3, .long 0), (0, .ref 78), (1, .ref f), (2, .ref b)]) d_Fi_save_6 (by decide) rfl k) ?_
  refine ST.lift (fun _ _ k => T_iconst (v := nI 0) d_Fi_save_7 (by decide) k) ?_
  refine ST.lift (fun _ _ k => T_istore (L' := [(5, .int (nI 0)), (3, .long 0), (0, .ref 78), (1, .ref f), (2, .ref b)]) d_Fi_save_8 (by decide) rfl k) ?_
  refine ST.lift (fun _ _ k => T_iconst (v := nI 0) d_Fi_save_10 (by decide) k) ?_
  refine ST.lift (fun _ _ k => T_istore (L' := [(6, .int (nI 0)), (5, .int (nI 0)), (3, .long 0), (0, .ref 78), (1, .ref f), (2, .ref b)]) d_Fi_save_11 (by decide) rfl k) ?_
  refine ST.lift (fun _ _ k => T_iload d_Fi_save_13 rfl k) ?_
  refine ST.lift (fun _ _ k => T_bipush (v := nI 10) d_Fi_save_15 (by decide) k) ?_
  refine S_icmp_geN d_Fi_save_17 rfl (by omega) (by omega) (fun c => by first | exact absurd c (by omega) | exact c.elim | exact absurd c (by decide) | exact absurd (by assumption) c | exact absurd c (by assumption)) (fun _ => ?_)
  refine ST.lift (fun _ _ k => T_lload_n d_Fi_save_20 rfl k) ?_
  refine ST.lift (fun _ _ k => T_aload_n (v := .ref 78) d_Fi_save_21 rfl (Or.inr ⟨_, rfl⟩) k) ?_
  refine S_getfield d_Fi_save_22 fg_Fi_9 (w78 _) rfl ?_
  refine ST.lift (fun _ _ k => T_iload d_Fi_save_25 rfl k) ?_
  refine S_laload d_Fi_save_27 a79 (vp_in_nI (by omega) (by omega)) (fun z1 => ?_)
  refine ST.lift (fun _ _ k => T_iload d_Fi_save_28 rfl k) ?_
  refine ST.lift (fun _ _ k => T_lshl d_Fi_save_30 k) (S_anyl fun z2 => ?_)
  refine ST.lift (fun _ _ k => T_lor d_Fi_save_31 k) (S_anyl fun z3 => ?_)
  refine ST.lift (fun _ _ k => T_lstore_n (L' := [(3, .long z3), (6, .int (nI 0)), (5, .int (nI 0)), (0, .ref 78), (1, .ref f), (2, .ref b)]) d_Fi_save_32 (by decide) rfl k) ?_
  refine ST.lift (fun _ _ k => T_iload d_Fi_save_33 rfl k) ?_
  refine ST.lift (fun _ _ k => T_bipush (v := nI 26) d_Fi_save_35 (by decide) k) ?_
  refine ST.lift (fun _ _ k => T_iload d_Fi_save_37 rfl k) ?_
  refine ST.lift (fun _ _ k => T_iconst (v := nI 1) d_Fi_save_39 (by decide) k) ?_
  refine S_iandN 1 d_Fi_save_40 (by omega) (by decide) (by decide) ?_
  refine S_topi (y := nI 0) (by decide) ?_
  refine S_isubN d_Fi_save_41 (by omega) ?_
  refine S_topi (y := nI 26) (by decide) ?_
  refine S_iaddN d_Fi_save_42 ?_
  refine S_topi (y := nI 26) (by decide) ?_
  refine ST.lift (fun _ _ k => T_istore (L' := [(5, .int (nI 26)), (3, .long z3), (6, .int (nI 0)), (0, .ref 78), (1, .ref f), (2, .ref b)]) d_Fi_save_43 (by decide) rfl k) ?_
  refine ST.lift (fun _ _ k => T_iload d_Fi_save_45 rfl k) ?_
  refine ST.lift (fun _ _ k => T_bipush (v := nI 8) d_Fi_save_47 (by decide) k) ?_
  refine S_icmp_ltN d_Fi_save_49 rfl (by omega) (by omega) (fun c => by first | exact absurd c (by omega) | exact c.elim | exact absurd c (by decide) | exact absurd (by assumption) c | exact absurd c (by assumption)) (fun _ => ?_)
  refine ST.lift (fun _ _ k => T_aload_n (v := .ref b) d_Fi_save_52 rfl (Or.inr ⟨_, rfl⟩) k) ?_
  refine ST.lift (fun _ _ k => T_lload_n d_Fi_save_53 rfl k) ?_
  refine ST.lift (fun _ _ k => T_l2i d_Fi_save_54 k) (S_anyi fun z4 => ?_)
  refine S_virtual (as := [.int z4]) (rest := []) (b := b) d_Fi_save_55 rfl (jw_By_putByte.jo (by decide)) lm_Fi_47 ji_By_putByte js_By_putByte (y_b.1 _) rfl rfl rfl (Nat.le_of_ble_eq_true rfl) (by decide) (by decide) (c_By_putByte_ex G v b bd bc bj y_b z4 k ebj (by omega) hv) (fun r v' hq => ?_)
  rw [hq.1, hq.2]
  clear hq r v'
  show ST G mi_Fi_save 58 [(5, .int (nI 26)), (3, .long z3), (6, .int (nI 0)), (0, .ref 78), (1, .ref f), (2, .ref b)] [] (va_up v bj (nI (k + 1))) 0 0 _
  have hv6 := hv.up (j := bj) (c := bc) (k := (k + 1)) y_b.2.2.2.2.1 (by omega)
  have hm7 := hm.go (mdf.up (v := v) (j := bj) (x := (nI (k + 1)))) (by intro i hi; simp only [List.mem_cons, List.not_mem_nil, or_false] at hi ⊢ <;> omega)
  have e_u5 : (va_up v bj (nI (k + 1))) bj = (nI (k + 1)) := by simp [va_up]
  generalize va_up v bj (nI (k + 1)) = u5 at hv6 hm7 e_u5 ⊢
  refine ST.lift (fun _ _ k => T_lload_n d_Fi_save_58 rfl k) ?_
  refine ST.lift (fun _ _ k => T_bipush (v := nI 8) d_Fi_save_59 (by decide) k) ?_
  refine ST.lift (fun _ _ k => T_lshr d_Fi_save_61 k) (S_anyl fun z8 => ?_)
  refine ST.lift (fun _ _ k => T_lstore_n (L' := [(3, .long z8), (5, .int (nI 26)), (6, .int (nI 0)), (0, .ref 78), (1, .ref f), (2, .ref b)]) d_Fi_save_62 (by decide) rfl k) ?_
  refine ST.lift (fun _ _ k => T_iinc (x := nI 26) (L' := [(5, .int (nI 18)), (3, .long z8), (6, .int (nI 0)), (0, .ref 78), (1, .ref f), (2, .ref b)]) d_Fi_save_63 (by decide) rfl (by rw [show nI 26 + Int32.ofInt (-8) = nI 18 by decide]; rfl) k) ?_
  refine ST.lift (fun _ _ k => T_goto (tgt := 45) d_Fi_save_66 rfl k) ?_
  refine ST.lift (fun _ _ k => T_iload d_Fi_save_45 rfl k) ?_
  refine ST.lift (fun _ _ k => T_bipush (v := nI 8) d_Fi_save_47 (by decide) k) ?_
  refine S_icmp_ltN d_Fi_save_49 rfl (by omega) (by omega) (fun c => by first | exact absurd c (by omega) | exact c.elim | exact absurd c (by decide) | exact absurd (by assumption) c | exact absurd c (by assumption)) (fun _ => ?_)
  refine ST.lift (fun _ _ k => T_aload_n (v := .ref b) d_Fi_save_52 rfl (Or.inr ⟨_, rfl⟩) k) ?_
  refine ST.lift (fun _ _ k => T_lload_n d_Fi_save_53 rfl k) ?_
  refine ST.lift (fun _ _ k => T_l2i d_Fi_save_54 k) (S_anyi fun z9 => ?_)
  refine S_virtual (as := [.int z9]) (rest := []) (b := b) d_Fi_save_55 rfl (jw_By_putByte.jo (by decide)) lm_Fi_47 ji_By_putByte js_By_putByte (y_b.1 _) rfl rfl rfl (Nat.le_of_ble_eq_true rfl) (by decide) (by decide) (c_By_putByte_ex G u5 b bd bc bj y_b z9 (k + 1) e_u5 (by omega) hv6) (fun r v' hq => ?_)
  rw [hq.1, hq.2]
  clear hq r v'
  show ST G mi_Fi_save 58 [(5, .int (nI 18)), (3, .long z8), (6, .int (nI 0)), (0, .ref 78), (1, .ref f), (2, .ref b)] [] (va_up u5 bj (nI ((k + 1) + 1))) 0 0 _
  have hv11 := hv6.up (j := bj) (c := bc) (k := ((k + 1) + 1)) y_b.2.2.2.2.1 (by omega)
  have hm12 := hm7.go (mdf.up (v := u5) (j := bj) (x := (nI ((k + 1) + 1)))) (by intro i hi; simp only [List.mem_cons, List.not_mem_nil, or_false] at hi ⊢ <;> omega)
  have e_u10 : (va_up u5 bj (nI ((k + 1) + 1))) bj = (nI ((k + 1) + 1)) := by simp [va_up]
  generalize va_up u5 bj (nI ((k + 1) + 1)) = u10 at hv11 hm12 e_u10 ⊢
  refine ST.lift (fun _ _ k => T_lload_n d_Fi_save_58 rfl k) ?_
  refine ST.lift (fun _ _ k => T_bipush (v := nI 8) d_Fi_save_59 (by decide) k) ?_
  refine ST.lift (fun _ _ k => T_lshr d_Fi_save_61 k) (S_anyl fun z13 => ?_)
  refine ST.lift (fun _ _ k => T_lstore_n (L' := [(3, .long z13), (5, .int (nI 18)), (6, .int (nI 0)), (0, .ref 78), (1, .ref f), (2, .ref b)]) d_Fi_save_62 (by decide) rfl k) ?_
  refine ST.lift (fun _ _ k => T_iinc (x := nI 18) (L' := [(5, .int (nI 10)), (3, .long z13), (6, .int (nI 0)), (0, .ref 78), (1, .ref f), (2, .ref b)]) d_Fi_save_63 (by decide) rfl (by rw [show nI 18 + Int32.ofInt (-8) = nI 10 by decide]; rfl) k) ?_
  refine ST.lift (fun _ _ k => T_goto (tgt := 45) d_Fi_save_66 rfl k) ?_
  refine ST.lift (fun _ _ k => T_iload d_Fi_save_45 rfl k) ?_
  refine ST.lift (fun _ _ k => T_bipush (v := nI 8) d_Fi_save_47 (by decide) k) ?_
  refine S_icmp_ltN d_Fi_save_49 rfl (by omega) (by omega) (fun c => by first | exact absurd c (by omega) | exact c.elim | exact absurd c (by decide) | exact absurd (by assumption) c | exact absurd c (by assumption)) (fun _ => ?_)
  refine ST.lift (fun _ _ k => T_aload_n (v := .ref b) d_Fi_save_52 rfl (Or.inr ⟨_, rfl⟩) k) ?_
  refine ST.lift (fun _ _ k => T_lload_n d_Fi_save_53 rfl k) ?_
  refine ST.lift (fun _ _ k => T_l2i d_Fi_save_54 k) (S_anyi fun z14 => ?_)
  refine S_virtual (as := [.int z14]) (rest := []) (b := b) d_Fi_save_55 rfl (jw_By_putByte.jo (by decide)) lm_Fi_47 ji_By_putByte js_By_putByte (y_b.1 _) rfl rfl rfl (Nat.le_of_ble_eq_true rfl) (by decide) (by decide) (c_By_putByte_ex G u10 b bd bc bj y_b z14 ((k + 1) + 1) e_u10 (by omega) hv11) (fun r v' hq => ?_)
  rw [hq.1, hq.2]
  clear hq r v'
  show ST G mi_Fi_save 58 [(5, .int (nI 10)), (3, .long z13), (6, .int (nI 0)), (0, .ref 78), (1, .ref f), (2, .ref b)] [] (va_up u10 bj (nI (((k + 1) + 1) + 1))) 0 0 _
  have hv16 := hv11.up (j := bj) (c := bc) (k := (((k + 1) + 1) + 1)) y_b.2.2.2.2.1 (by omega)
  have hm17 := hm12.go (mdf.up (v := u10) (j := bj) (x := (nI (((k + 1) + 1) + 1)))) (by intro i hi; simp only [List.mem_cons, List.not_mem_nil, or_false] at hi ⊢ <;> omega)
  have e_u15 : (va_up u10 bj (nI (((k + 1) + 1) + 1))) bj = (nI (((k + 1) + 1) + 1)) := by simp [va_up]
  generalize va_up u10 bj (nI (((k + 1) + 1) + 1)) = u15 at hv16 hm17 e_u15 ⊢
  refine ST.lift (fun _ _ k => T_lload_n d_Fi_save_58 rfl k) ?_
  refine ST.lift (fun _ _ k => T_bipush (v := nI 8) d_Fi_save_59 (by decide) k) ?_
  refine ST.lift (fun _ _ k => T_lshr d_Fi_save_61 k) (S_anyl fun z18 => ?_)
  refine ST.lift (fun _ _ k => T_lstore_n (L' := [(3, .long z18), (5, .int (nI 10)), (6, .int (nI 0)), (0, .ref 78), (1, .ref f), (2, .ref b)]) d_Fi_save_62 (by decide) rfl k) ?_
  refine ST.lift (fun _ _ k => T_iinc (x := nI 10) (L' := [(5, .int (nI 2)), (3, .long z18), (6, .int (nI 0)), (0, .ref 78), (1, .ref f), (2, .ref b)]) d_Fi_save_63 (by decide) rfl (by rw [show nI 10 + Int32.ofInt (-8) = nI 2 by decide]; rfl) k) ?_
  refine ST.lift (fun _ _ k => T_goto (tgt := 45) d_Fi_save_66 rfl k) ?_
  refine ST.lift (fun _ _ k => T_iload d_Fi_save_45 rfl k) ?_
  refine ST.lift (fun _ _ k => T_bipush (v := nI 8) d_Fi_save_47 (by decide) k) ?_
  refine S_icmp_ltN d_Fi_save_49 rfl (by omega) (by omega) (fun _ => ?_) (fun c => by first | exact absurd c (by omega) | exact c.elim | exact absurd c (by decide) | exact absurd (by assumption) c | exact absurd c (by assumption))
  refine S_iincN (a := 0) (b := 1) (L' := [(6, .int (nI 1)), (5, .int (nI 2)), (3, .long z18), (0, .ref 78), (1, .ref f), (2, .ref b)]) d_Fi_save_69 (by decide) rfl rfl rfl ?_
  refine ST.lift (fun _ _ k => T_goto (tgt := 13) d_Fi_save_72 rfl k) ?_
  refine ST.lift (fun _ _ k => T_iload d_Fi_save_13 rfl k) ?_
  refine ST.lift (fun _ _ k => T_bipush (v := nI 10) d_Fi_save_15 (by decide) k) ?_
  refine S_icmp_geN d_Fi_save_17 rfl (by omega) (by omega) (fun c => by first | exact absurd c (by omega) | exact c.elim | exact absurd c (by decide) | exact absurd (by assumption) c | exact absurd c (by assumption)) (fun _ => ?_)
  refine ST.lift (fun _ _ k => T_lload_n d_Fi_save_20 rfl k) ?_
  refine ST.lift (fun _ _ k => T_aload_n (v := .ref 78) d_Fi_save_21 rfl (Or.inr ⟨_, rfl⟩) k) ?_
  refine S_getfield d_Fi_save_22 fg_Fi_9 (w78 _) rfl ?_
  refine ST.lift (fun _ _ k => T_iload d_Fi_save_25 rfl k) ?_
  refine S_laload d_Fi_save_27 a79 (vp_in_nI (by omega) (by omega)) (fun z19 => ?_)
  refine ST.lift (fun _ _ k => T_iload d_Fi_save_28 rfl k) ?_
  refine ST.lift (fun _ _ k => T_lshl d_Fi_save_30 k) (S_anyl fun z20 => ?_)
  refine ST.lift (fun _ _ k => T_lor d_Fi_save_31 k) (S_anyl fun z21 => ?_)
  refine ST.lift (fun _ _ k => T_lstore_n (L' := [(3, .long z21), (6, .int (nI 1)), (5, .int (nI 2)), (0, .ref 78), (1, .ref f), (2, .ref b)]) d_Fi_save_32 (by decide) rfl k) ?_
  refine ST.lift (fun _ _ k => T_iload d_Fi_save_33 rfl k) ?_
  refine ST.lift (fun _ _ k => T_bipush (v := nI 26) d_Fi_save_35 (by decide) k) ?_
  refine ST.lift (fun _ _ k => T_iload d_Fi_save_37 rfl k) ?_
  refine ST.lift (fun _ _ k => T_iconst (v := nI 1) d_Fi_save_39 (by decide) k) ?_
  refine S_iandN 1 d_Fi_save_40 (by omega) (by decide) (by decide) ?_
  refine S_topi (y := nI 1) (by decide) ?_
  refine S_isubN d_Fi_save_41 (by omega) ?_
  refine S_topi (y := nI 25) (by decide) ?_
  refine S_iaddN d_Fi_save_42 ?_
  refine S_topi (y := nI 27) (by decide) ?_
  refine ST.lift (fun _ _ k => T_istore (L' := [(5, .int (nI 27)), (3, .long z21), (6, .int (nI 1)), (0, .ref 78), (1, .ref f), (2, .ref b)]) d_Fi_save_43 (by decide) rfl k) ?_
  refine ST.lift (fun _ _ k => T_iload d_Fi_save_45 rfl k) ?_
  refine ST.lift (fun _ _ k => T_bipush (v := nI 8) d_Fi_save_47 (by decide) k) ?_
  refine S_icmp_ltN d_Fi_save_49 rfl (by omega) (by omega) (fun c => by first | exact absurd c (by omega) | exact c.elim | exact absurd c (by decide) | exact absurd (by assumption) c | exact absurd c (by assumption)) (fun _ => ?_)
  refine ST.lift (fun _ _ k => T_aload_n (v := .ref b) d_Fi_save_52 rfl (Or.inr ⟨_, rfl⟩) k) ?_
  refine ST.lift (fun _ _ k => T_lload_n d_Fi_save_53 rfl k) ?_
  refine ST.lift (fun _ _ k => T_l2i d_Fi_save_54 k) (S_anyi fun z22 => ?_)
  refine S_virtual (as := [.int z22]) (rest := []) (b := b) d_Fi_save_55 rfl (jw_By_putByte.jo (by decide)) lm_Fi_47 ji_By_putByte js_By_putByte (y_b.1 _) rfl rfl rfl (Nat.le_of_ble_eq_true rfl) (by decide) (by decide) (c_By_putByte_ex G u15 b bd bc bj y_b z22 (((k + 1) + 1) + 1) e_u15 (by omega) hv16) (fun r v' hq => ?_)
  rw [hq.1, hq.2]
  clear hq r v'
  show ST G mi_Fi_save 58 [(5, .int (nI 27)), (3, .long z21), (6, .int (nI 1)), (0, .ref 78), (1, .ref f), (2, .ref b)] [] (va_up u15 bj (nI ((((k + 1) + 1) + 1) + 1))) 0 0 _
  have hv24 := hv16.up (j := bj) (c := bc) (k := ((((k + 1) + 1) + 1) + 1)) y_b.2.2.2.2.1 (by omega)
  have hm25 := hm17.go (mdf.up (v := u15) (j := bj) (x := (nI ((((k + 1) + 1) + 1) + 1)))) (by intro i hi; simp only [List.mem_cons, List.not_mem_nil, or_false] at hi ⊢ <;> omega)
  have e_u23 : (va_up u15 bj (nI ((((k + 1) + 1) + 1) + 1))) bj = (nI ((((k + 1) + 1) + 1) + 1)) := by simp [va_up]
  generalize va_up u15 bj (nI ((((k + 1) + 1) + 1) + 1)) = u23 at hv24 hm25 e_u23 ⊢
  refine ST.lift (fun _ _ k => T_lload_n d_Fi_save_58 rfl k) ?_
  refine ST.lift (fun _ _ k => T_bipush (v := nI 8) d_Fi_save_59 (by decide) k) ?_
  refine ST.lift (fun _ _ k => T_lshr d_Fi_save_61 k) (S_anyl fun z26 => ?_)
  refine ST.lift (fun _ _ k => T_lstore_n (L' := [(3, .long z26), (5, .int (nI 27)), (6, .int (nI 1)), (0, .ref 78), (1, .ref f), (2, .ref b)]) d_Fi_save_62 (by decide) rfl k) ?_
  refine ST.lift (fun _ _ k => T_iinc (x := nI 27) (L' := [(5, .int (nI 19)), (3, .long z26), (6, .int (nI 1)), (0, .ref 78), (1, .ref f), (2, .ref b)]) d_Fi_save_63 (by decide) rfl (by rw [show nI 27 + Int32.ofInt (-8) = nI 19 by decide]; rfl) k) ?_
  refine ST.lift (fun _ _ k => T_goto (tgt := 45) d_Fi_save_66 rfl k) ?_
  refine ST.lift (fun _ _ k => T_iload d_Fi_save_45 rfl k) ?_
  refine ST.lift (fun _ _ k => T_bipush (v := nI 8) d_Fi_save_47 (by decide) k) ?_
  refine S_icmp_ltN d_Fi_save_49 rfl (by omega) (by omega) (fun c => by first | exact absurd c (by omega) | exact c.elim | exact absurd c (by decide) | exact absurd (by assumption) c | exact absurd c (by assumption)) (fun _ => ?_)
  refine ST.lift (fun _ _ k => T_aload_n (v := .ref b) d_Fi_save_52 rfl (Or.inr ⟨_, rfl⟩) k) ?_
  refine ST.lift (fun _ _ k => T_lload_n d_Fi_save_53 rfl k) ?_
  refine ST.lift (fun _ _ k => T_l2i d_Fi_save_54 k) (S_anyi fun z27 => ?_)
  refine S_virtual (as := [.int z27]) (rest := []) (b := b) d_Fi_save_55 rfl (jw_By_putByte.jo (by decide)) lm_Fi_47 ji_By_putByte js_By_putByte (y_b.1 _) rfl rfl rfl (Nat.le_of_ble_eq_true rfl) (by decide) (by decide) (c_By_putByte_ex G u23 b bd bc bj y_b z27 ((((k + 1) + 1) + 1) + 1) e_u23 (by omega) hv24) (fun r v' hq => ?_)
  rw [hq.1, hq.2]
  clear hq r v'
  show ST G mi_Fi_save 58 [(5, .int (nI 19)), (3, .long z26), (6, .int (nI 1)), (0, .ref 78), (1, .ref f), (2, .ref b)] [] (va_up u23 bj (nI (((((k + 1) + 1) + 1) + 1) + 1))) 0 0 _
  have hv29 := hv24.up (j := bj) (c := bc) (k := (((((k + 1) + 1) + 1) + 1) + 1)) y_b.2.2.2.2.1 (by omega)
  have hm30 := hm25.go (mdf.up (v := u23) (j := bj) (x := (nI (((((k + 1) + 1) + 1) + 1) + 1)))) (by intro i hi; simp only [List.mem_cons, List.not_mem_nil, or_false] at hi ⊢ <;> omega)
  have e_u28 : (va_up u23 bj (nI (((((k + 1) + 1) + 1) + 1) + 1))) bj = (nI (((((k + 1) + 1) + 1) + 1) + 1)) := by simp [va_up]
  generalize va_up u23 bj (nI (((((k + 1) + 1) + 1) + 1) + 1)) = u28 at hv29 hm30 e_u28 ⊢
  refine ST.lift (fun _ _ k => T_lload_n d_Fi_save_58 rfl k) ?_
  refine ST.lift (fun _ _ k => T_bipush (v := nI 8) d_Fi_save_59 (by decide) k) ?_
  refine ST.lift (fun _ _ k => T_lshr d_Fi_save_61 k) (S_anyl fun z31 => ?_)
  refine ST.lift (fun _ _ k => T_lstore_n (L' := [(3, .long z31), (5, .int (nI 19)), (6, .int (nI 1)), (0, .ref 78), (1, .ref f), (2, .ref b)]) d_Fi_save_62 (by decide) rfl k) ?_
  refine ST.lift (fun _ _ k => T_iinc (x := nI 19) (L' := [(5, .int (nI 11)), (3, .long z31), (6, .int (nI 1)), (0, .ref 78), (1, .ref f), (2, .ref b)]) d_Fi_save_63 (by decide) rfl (by rw [show nI 19 + Int32.ofInt (-8) = nI 11 by decide]; rfl) k) ?_
  refine ST.lift (fun _ _ k => T_goto (tgt := 45) d_Fi_save_66 rfl k) ?_
  refine ST.lift (fun _ _ k => T_iload d_Fi_save_45 rfl k) ?_
  refine ST.lift (fun _ _ k => T_bipush (v := nI 8) d_Fi_save_47 (by decide) k) ?_
  refine S_icmp_ltN d_Fi_save_49 rfl (by omega) (by omega) (fun c => by first | exact absurd c (by omega) | exact c.elim | exact absurd c (by decide) | exact absurd (by assumption) c | exact absurd c (by assumption)) (fun _ => ?_)
  refine ST.lift (fun _ _ k => T_aload_n (v := .ref b) d_Fi_save_52 rfl (Or.inr ⟨_, rfl⟩) k) ?_
  refine ST.lift (fun _ _ k => T_lload_n d_Fi_save_53 rfl k) ?_
  refine ST.lift (fun _ _ k => T_l2i d_Fi_save_54 k) (S_anyi fun z32 => ?_)
  refine S_virtual (as := [.int z32]) (rest := []) (b := b) d_Fi_save_55 rfl (jw_By_putByte.jo (by decide)) lm_Fi_47 ji_By_putByte js_By_putByte (y_b.1 _) rfl rfl rfl (Nat.le_of_ble_eq_true rfl) (by decide) (by decide) (c_By_putByte_ex G u28 b bd bc bj y_b z32 (((((k + 1) + 1) + 1) + 1) + 1) e_u28 (by omega) hv29) (fun r v' hq => ?_)
  rw [hq.1, hq.2]
  clear hq r v'
  show ST G mi_Fi_save 58 [(5, .int (nI 11)), (3, .long z31), (6, .int (nI 1)), (0, .ref 78), (1, .ref f), (2, .ref b)] [] (va_up u28 bj (nI ((((((k + 1) + 1) + 1) + 1) + 1) + 1))) 0 0 _
  have hv34 := hv29.up (j := bj) (c := bc) (k := ((((((k + 1) + 1) + 1) + 1) + 1) + 1)) y_b.2.2.2.2.1 (by omega)
  have hm35 := hm30.go (mdf.up (v := u28) (j := bj) (x := (nI ((((((k + 1) + 1) + 1) + 1) + 1) + 1)))) (by intro i hi; simp only [List.mem_cons, List.not_mem_nil, or_false] at hi ⊢ <;> omega)
  have e_u33 : (va_up u28 bj (nI ((((((k + 1) + 1) + 1) + 1) + 1) + 1))) bj = (nI ((((((k + 1) + 1) + 1) + 1) + 1) + 1)) := by simp [va_up]
  generalize va_up u28 bj (nI ((((((k + 1) + 1) + 1) + 1) + 1) + 1)) = u33 at hv34 hm35 e_u33 ⊢
  refine ST.lift (fun _ _ k => T_lload_n d_Fi_save_58 rfl k) ?_
  refine ST.lift (fun _ _ k => T_bipush (v := nI 8) d_Fi_save_59 (by decide) k) ?_
  refine ST.lift (fun _ _ k => T_lshr d_Fi_save_61 k) (S_anyl fun z36 => ?_)
  refine ST.lift (fun _ _ k => T_lstore_n (L' := [(3, .long z36), (5, .int (nI 11)), (6, .int (nI 1)), (0, .ref 78), (1, .ref f), (2, .ref b)]) d_Fi_save_62 (by decide) rfl k) ?_
  refine ST.lift (fun _ _ k => T_iinc (x := nI 11) (L' := [(5, .int (nI 3)), (3, .long z36), (6, .int (nI 1)), (0, .ref 78), (1, .ref f), (2, .ref b)]) d_Fi_save_63 (by decide) rfl (by rw [show nI 11 + Int32.ofInt (-8) = nI 3 by decide]; rfl) k) ?_
  refine ST.lift (fun _ _ k => T_goto (tgt := 45) d_Fi_save_66 rfl k) ?_
  refine ST.lift (fun _ _ k => T_iload d_Fi_save_45 rfl k) ?_
  refine ST.lift (fun _ _ k => T_bipush (v := nI 8) d_Fi_save_47 (by decide) k) ?_
  refine S_icmp_ltN d_Fi_save_49 rfl (by omega) (by omega) (fun _ => ?_) (fun c => by first | exact absurd c (by omega) | exact c.elim | exact absurd c (by decide) | exact absurd (by assumption) c | exact absurd c (by assumption))
  refine S_iincN (a := 1) (b := 1) (L' := [(6, .int (nI 2)), (5, .int (nI 3)), (3, .long z36), (0, .ref 78), (1, .ref f), (2, .ref b)]) d_Fi_save_69 (by decide) rfl rfl rfl ?_
  refine ST.lift (fun _ _ k => T_goto (tgt := 13) d_Fi_save_72 rfl k) ?_
  refine ST.lift (fun _ _ k => T_iload d_Fi_save_13 rfl k) ?_
  refine ST.lift (fun _ _ k => T_bipush (v := nI 10) d_Fi_save_15 (by decide) k) ?_
  refine S_icmp_geN d_Fi_save_17 rfl (by omega) (by omega) (fun c => by first | exact absurd c (by omega) | exact c.elim | exact absurd c (by decide) | exact absurd (by assumption) c | exact absurd c (by assumption)) (fun _ => ?_)
  refine ST.lift (fun _ _ k => T_lload_n d_Fi_save_20 rfl k) ?_
  refine ST.lift (fun _ _ k => T_aload_n (v := .ref 78) d_Fi_save_21 rfl (Or.inr ⟨_, rfl⟩) k) ?_
  refine S_getfield d_Fi_save_22 fg_Fi_9 (w78 _) rfl ?_
  refine ST.lift (fun _ _ k => T_iload d_Fi_save_25 rfl k) ?_
  refine S_laload d_Fi_save_27 a79 (vp_in_nI (by omega) (by omega)) (fun z37 => ?_)
  refine ST.lift (fun _ _ k => T_iload d_Fi_save_28 rfl k) ?_
  refine ST.lift (fun _ _ k => T_lshl d_Fi_save_30 k) (S_anyl fun z38 => ?_)
  refine ST.lift (fun _ _ k => T_lor d_Fi_save_31 k) (S_anyl fun z39 => ?_)
  refine ST.lift (fun _ _ k => T_lstore_n (L' := [(3, .long z39), (6, .int (nI 2)), (5, .int (nI 3)), (0, .ref 78), (1, .ref f), (2, .ref b)]) d_Fi_save_32 (by decide) rfl k) ?_
  refine ST.lift (fun _ _ k => T_iload d_Fi_save_33 rfl k) ?_
  refine ST.lift (fun _ _ k => T_bipush (v := nI 26) d_Fi_save_35 (by decide) k) ?_
  refine ST.lift (fun _ _ k => T_iload d_Fi_save_37 rfl k) ?_
  refine ST.lift (fun _ _ k => T_iconst (v := nI 1) d_Fi_save_39 (by decide) k) ?_
  refine S_iandN 1 d_Fi_save_40 (by omega) (by decide) (by decide) ?_
  refine S_topi (y := nI 0) (by decide) ?_
  refine S_isubN d_Fi_save_41 (by omega) ?_
  refine S_topi (y := nI 26) (by decide) ?_
  refine S_iaddN d_Fi_save_42 ?_
  refine S_topi (y := nI 29) (by decide) ?_
  refine ST.lift (fun _ _ k => T_istore (L' := [(5, .int (nI 29)), (3, .long z39), (6, .int (nI 2)), (0, .ref 78), (1, .ref f), (2, .ref b)]) d_Fi_save_43 (by decide) rfl k) ?_
  refine ST.lift (fun _ _ k => T_iload d_Fi_save_45 rfl k) ?_
  refine ST.lift (fun _ _ k => T_bipush (v := nI 8) d_Fi_save_47 (by decide) k) ?_
  refine S_icmp_ltN d_Fi_save_49 rfl (by omega) (by omega) (fun c => by first | exact absurd c (by omega) | exact c.elim | exact absurd c (by decide) | exact absurd (by assumption) c | exact absurd c (by assumption)) (fun _ => ?_)
  refine ST.lift (fun _ _ k => T_aload_n (v := .ref b) d_Fi_save_52 rfl (Or.inr ⟨_, rfl⟩) k) ?_
  refine ST.lift (fun _ _ k => T_lload_n d_Fi_save_53 rfl k) ?_
  refine ST.lift (fun _ _ k => T_l2i d_Fi_save_54 k) (S_anyi fun z40 => ?_)
  refine S_virtual (as := [.int z40]) (rest := []) (b := b) d_Fi_save_55 rfl (jw_By_putByte.jo (by decide)) lm_Fi_47 ji_By_putByte js_By_putByte (y_b.1 _) rfl rfl rfl (Nat.le_of_ble_eq_true rfl) (by decide) (by decide) (c_By_putByte_ex G u33 b bd bc bj y_b z40 ((((((k + 1) + 1) + 1) + 1) + 1) + 1) e_u33 (by omega) hv34) (fun r v' hq => ?_)
  rw [hq.1, hq.2]
  clear hq r v'
  show ST G mi_Fi_save 58 [(5, .int (nI 29)), (3, .long z39), (6, .int (nI 2)), (0, .ref 78), (1, .ref f), (2, .ref b)] [] (va_up u33 bj (nI (((((((k + 1) + 1) + 1) + 1) + 1) + 1) + 1))) 0 0 _
  have hv42 := hv34.up (j := bj) (c := bc) (k := (((((((k + 1) + 1) + 1) + 1) + 1) + 1) + 1)) y_b.2.2.2.2.1 (by omega)
  have hm43 := hm35.go (mdf.up (v := u33) (j := bj) (x := (nI (((((((k + 1) + 1) + 1) + 1) + 1) + 1) + 1)))) (by intro i hi; simp only [List.mem_cons, List.not_mem_nil, or_false] at hi ⊢ <;> omega)
  have e_u41 : (va_up u33 bj (nI (((((((k + 1) + 1) + 1) + 1) + 1) + 1) + 1))) bj = (nI (((((((k + 1) + 1) + 1) + 1) + 1) + 1) + 1)) := by simp [va_up]
  generalize va_up u33 bj (nI (((((((k + 1) + 1) + 1) + 1) + 1) + 1) + 1)) = u41 at hv42 hm43 e_u41 ⊢
  refine ST.lift (fun _ _ k => T_lload_n d_Fi_save_58 rfl k) ?_
  refine ST.lift (fun _ _ k => T_bipush (v := nI 8) d_Fi_save_59 (by decide) k) ?_
  refine ST.lift (fun _ _ k => T_lshr d_Fi_save_61 k) (S_anyl fun z44 => ?_)
  refine ST.lift (fun _ _ k => T_lstore_n (L' := [(3, .long z44), (5, .int (nI 29)), (6, .int (nI 2)), (0, .ref 78), (1, .ref f), (2, .ref b)]) d_Fi_save_62 (by decide) rfl k) ?_
  refine ST.lift (fun _ _ k => T_iinc (x := nI 29) (L' := [(5, .int (nI 21)), (3, .long z44), (6, .int (nI 2)), (0, .ref 78), (1, .ref f), (2, .ref b)]) d_Fi_save_63 (by decide) rfl (by rw [show nI 29 + Int32.ofInt (-8) = nI 21 by decide]; rfl) k) ?_
  refine ST.lift (fun _ _ k => T_goto (tgt := 45) d_Fi_save_66 rfl k) ?_
  refine ST.lift (fun _ _ k => T_iload d_Fi_save_45 rfl k) ?_
  refine ST.lift (fun _ _ k => T_bipush (v := nI 8) d_Fi_save_47 (by decide) k) ?_
  refine S_icmp_ltN d_Fi_save_49 rfl (by omega) (by omega) (fun c => by first | exact absurd c (by omega) | exact c.elim | exact absurd c (by decide) | exact absurd (by assumption) c | exact absurd c (by assumption)) (fun _ => ?_)
  refine ST.lift (fun _ _ k => T_aload_n (v := .ref b) d_Fi_save_52 rfl (Or.inr ⟨_, rfl⟩) k) ?_
  refine ST.lift (fun _ _ k => T_lload_n d_Fi_save_53 rfl k) ?_
  refine ST.lift (fun _ _ k => T_l2i d_Fi_save_54 k) (S_anyi fun z45 => ?_)
  refine S_virtual (as := [.int z45]) (rest := []) (b := b) d_Fi_save_55 rfl (jw_By_putByte.jo (by decide)) lm_Fi_47 ji_By_putByte js_By_putByte (y_b.1 _) rfl rfl rfl (Nat.le_of_ble_eq_true rfl) (by decide) (by decide) (c_By_putByte_ex G u41 b bd bc bj y_b z45 (((((((k + 1) + 1) + 1) + 1) + 1) + 1) + 1) e_u41 (by omega) hv42) (fun r v' hq => ?_)
  rw [hq.1, hq.2]
  clear hq r v'
  show ST G mi_Fi_save 58 [(5, .int (nI 21)), (3, .long z44), (6, .int (nI 2)), (0, .ref 78), (1, .ref f), (2, .ref b)] [] (va_up u41 bj (nI ((((((((k + 1) + 1) + 1) + 1) + 1) + 1) + 1) + 1))) 0 0 _
  have hv47 := hv42.up (j := bj) (c := bc) (k := ((((((((k + 1) + 1) + 1) + 1) + 1) + 1) + 1) + 1)) y_b.2.2.2.2.1 (by omega)
  have hm48 := hm43.go (mdf.up (v := u41) (j := bj) (x := (nI ((((((((k + 1) + 1) + 1) + 1) + 1) + 1) + 1) + 1)))) (by intro i hi; simp only [List.mem_cons, List.not_mem_nil, or_false] at hi ⊢ <;> omega)
  have e_u46 : (va_up u41 bj (nI ((((((((k + 1) + 1) + 1) + 1) + 1) + 1) + 1) + 1))) bj = (nI ((((((((k + 1) + 1) + 1) + 1) + 1) + 1) + 1) + 1)) := by simp [va_up]
  generalize va_up u41 bj (nI ((((((((k + 1) + 1) + 1) + 1) + 1) + 1) + 1) + 1)) = u46 at hv47 hm48 e_u46 ⊢
  refine ST.lift (fun _ _ k => T_lload_n d_Fi_save_58 rfl k) ?_
  refine ST.lift (fun _ _ k => T_bipush (v := nI 8) d_Fi_save_59 (by decide) k) ?_
  refine ST.lift (fun _ _ k => T_lshr d_Fi_save_61 k) (S_anyl fun z49 => ?_)
  refine ST.lift (fun _ _ k => T_lstore_n (L' := [(3, .long z49), (5, .int (nI 21)), (6, .int (nI 2)), (0, .ref 78), (1, .ref f), (2, .ref b)]) d_Fi_save_62 (by decide) rfl k) ?_
  refine ST.lift (fun _ _ k => T_iinc (x := nI 21) (L' := [(5, .int (nI 13)), (3, .long z49), (6, .int (nI 2)), (0, .ref 78), (1, .ref f), (2, .ref b)]) d_Fi_save_63 (by decide) rfl (by rw [show nI 21 + Int32.ofInt (-8) = nI 13 by decide]; rfl) k) ?_
  refine ST.lift (fun _ _ k => T_goto (tgt := 45) d_Fi_save_66 rfl k) ?_
  refine ST.lift (fun _ _ k => T_iload d_Fi_save_45 rfl k) ?_
  refine ST.lift (fun _ _ k => T_bipush (v := nI 8) d_Fi_save_47 (by decide) k) ?_
  refine S_icmp_ltN d_Fi_save_49 rfl (by omega) (by omega) (fun c => by first | exact absurd c (by omega) | exact c.elim | exact absurd c (by decide) | exact absurd (by assumption) c | exact absurd c (by assumption)) (fun _ => ?_)
  refine ST.lift (fun _ _ k => T_aload_n (v := .ref b) d_Fi_save_52 rfl (Or.inr ⟨_, rfl⟩) k) ?_
  refine ST.lift (fun _ _ k => T_lload_n d_Fi_save_53 rfl k) ?_
  refine ST.lift (fun _ _ k => T_l2i d_Fi_save_54 k) (S_anyi fun z50 => ?_)
  refine S_virtual (as := [.int z50]) (rest := []) (b := b) d_Fi_save_55 rfl (jw_By_putByte.jo (by decide)) lm_Fi_47 ji_By_putByte js_By_putByte (y_b.1 _) rfl rfl rfl (Nat.le_of_ble_eq_true rfl) (by decide) (by decide) (c_By_putByte_ex G u46 b bd bc bj y_b z50 ((((((((k + 1) + 1) + 1) + 1) + 1) + 1) + 1) + 1) e_u46 (by omega) hv47) (fun r v' hq => ?_)
  rw [hq.1, hq.2]
  clear hq r v'
  show ST G mi_Fi_save 58 [(5, .int (nI 13)), (3, .long z49), (6, .int (nI 2)), (0, .ref 78), (1, .ref f), (2, .ref b)] [] (va_up u46 bj (nI (((((((((k + 1) + 1) + 1) + 1) + 1) + 1) + 1) + 1) + 1))) 0 0 _
  have hv52 := hv47.up (j := bj) (c := bc) (k := (((((((((k + 1) + 1) + 1) + 1) + 1) + 1) + 1) + 1) + 1)) y_b.2.2.2.2.1 (by omega)
  have hm53 := hm48.go (mdf.up (v := u46) (j := bj) (x := (nI (((((((((k + 1) + 1) + 1) + 1) + 1) + 1) + 1) + 1) + 1)))) (by intro i hi; simp only [List.mem_cons, List.not_mem_nil, or_false] at hi ⊢ <;> omega)
  have e_u51 : (va_up u46 bj (nI (((((((((k + 1) + 1) + 1) + 1) + 1) + 1) + 1) + 1) + 1))) bj = (nI (((((((((k + 1) + 1) + 1) + 1) + 1) + 1) + 1) + 1) + 1)) := by simp [va_up]
  generalize va_up u46 bj (nI (((((((((k + 1) + 1) + 1) + 1) + 1) + 1) + 1) + 1) + 1)) = u51 at hv52 hm53 e_u51 ⊢
  refine ST.lift (fun _ _ k => T_lload_n d_Fi_save_58 rfl k) ?_
  refine ST.lift (fun _ _ k => T_bipush (v := nI 8) d_Fi_save_59 (by decide) k) ?_
  refine ST.lift (fun _ _ k => T_lshr d_Fi_save_61 k) (S_anyl fun z54 => ?_)
  refine ST.lift (fun _ _ k => T_lstore_n (L' := [(3, .long z54), (5, .int (nI 13)), (6, .int (nI 2)), (0, .ref 78), (1, .ref f), (2, .ref b)]) d_Fi_save_62 (by decide) rfl k) ?_
  refine ST.lift (fun _ _ k => T_iinc (x := nI 13) (L' := [(5, .int (nI 5)), (3, .long z54), (6, .int (nI 2)), (0, .ref 78), (1, .ref f), (2, .ref b)]) d_Fi_save_63 (by decide) rfl (by rw [show nI 13 + Int32.ofInt (-8) = nI 5 by decide]; rfl) k) ?_
  refine ST.lift (fun _ _ k => T_goto (tgt := 45) d_Fi_save_66 rfl k) ?_
  refine ST.lift (fun _ _ k => T_iload d_Fi_save_45 rfl k) ?_
  refine ST.lift (fun _ _ k => T_bipush (v := nI 8) d_Fi_save_47 (by decide) k) ?_
  refine S_icmp_ltN d_Fi_save_49 rfl (by omega) (by omega) (fun _ => ?_) (fun c => by first | exact absurd c (by omega) | exact c.elim | exact absurd c (by decide) | exact absurd (by assumption) c | exact absurd c (by assumption))
  refine S_iincN (a := 2) (b := 1) (L' := [(6, .int (nI 3)), (5, .int (nI 5)), (3, .long z54), (0, .ref 78), (1, .ref f), (2, .ref b)]) d_Fi_save_69 (by decide) rfl rfl rfl ?_
  refine ST.lift (fun _ _ k => T_goto (tgt := 13) d_Fi_save_72 rfl k) ?_
  refine ST.lift (fun _ _ k => T_iload d_Fi_save_13 rfl k) ?_
  refine ST.lift (fun _ _ k => T_bipush (v := nI 10) d_Fi_save_15 (by decide) k) ?_
  refine S_icmp_geN d_Fi_save_17 rfl (by omega) (by omega) (fun c => by first | exact absurd c (by omega) | exact c.elim | exact absurd c (by decide) | exact absurd (by assumption) c | exact absurd c (by assumption)) (fun _ => ?_)
  refine ST.lift (fun _ _ k => T_lload_n d_Fi_save_20 rfl k) ?_
  refine ST.lift (fun _ _ k => T_aload_n (v := .ref 78) d_Fi_save_21 rfl (Or.inr ⟨_, rfl⟩) k) ?_
  refine S_getfield d_Fi_save_22 fg_Fi_9 (w78 _) rfl ?_
  refine ST.lift (fun _ _ k => T_iload d_Fi_save_25 rfl k) ?_
  refine S_laload d_Fi_save_27 a79 (vp_in_nI (by omega) (by omega)) (fun z55 => ?_)
  refine ST.lift (fun _ _ k => T_iload d_Fi_save_28 rfl k) ?_
  refine ST.lift (fun _ _ k => T_lshl d_Fi_save_30 k) (S_anyl fun z56 => ?_)
  refine ST.lift (fun _ _ k => T_lor d_Fi_save_31 k) (S_anyl fun z57 => ?_)
  refine ST.lift (fun _ _ k => T_lstore_n (L' := [(3, .long z57), (6, .int (nI 3)), (5, .int (nI 5)), (0, .ref 78), (1, .ref f), (2, .ref b)]) d_Fi_save_32 (by decide) rfl k) ?_
  refine ST.lift (fun _ _ k => T_iload d_Fi_save_33 rfl k) ?_
  refine ST.lift (fun _ _ k => T_bipush (v := nI 26) d_Fi_save_35 (by decide) k) ?_
  refine ST.lift (fun _ _ k => T_iload d_Fi_save_37 rfl k) ?_
  refine ST.lift (fun _ _ k => T_iconst (v := nI 1) d_Fi_save_39 (by decide) k) ?_
  refine S_iandN 1 d_Fi_save_40 (by omega) (by decide) (by decide) ?_
  refine S_topi (y := nI 1) (by decide) ?_
  refine S_isubN d_Fi_save_41 (by omega) ?_
  refine S_topi (y := nI 25) (by decide) ?_
  refine S_iaddN d_Fi_save_42 ?_
  refine S_topi (y := nI 30) (by decide) ?_
  refine ST.lift (fun _ _ k => T_istore (L' := [(5, .int (nI 30)), (3, .long z57), (6, .int (nI 3)), (0, .ref 78), (1, .ref f), (2, .ref b)]) d_Fi_save_43 (by decide) rfl k) ?_
  refine ST.lift (fun _ _ k => T_iload d_Fi_save_45 rfl k) ?_
  refine ST.lift (fun _ _ k => T_bipush (v := nI 8) d_Fi_save_47 (by decide) k) ?_
  refine S_icmp_ltN d_Fi_save_49 rfl (by omega) (by omega) (fun c => by first | exact absurd c (by omega) | exact c.elim | exact absurd c (by decide) | exact absurd (by assumption) c | exact absurd c (by assumption)) (fun _ => ?_)
  refine ST.lift (fun _ _ k => T_aload_n (v := .ref b) d_Fi_save_52 rfl (Or.inr ⟨_, rfl⟩) k) ?_
  refine ST.lift (fun _ _ k => T_lload_n d_Fi_save_53 rfl k) ?_
  refine ST.lift (fun _ _ k => T_l2i d_Fi_save_54 k) (S_anyi fun z58 => ?_)
  refine S_virtual (as := [.int z58]) (rest := []) (b := b) d_Fi_save_55 rfl (jw_By_putByte.jo (by decide)) lm_Fi_47 ji_By_putByte js_By_putByte (y_b.1 _) rfl rfl rfl (Nat.le_of_ble_eq_true rfl) (by decide) (by decide) (c_By_putByte_ex G u51 b bd bc bj y_b z58 (((((((((k + 1) + 1) + 1) + 1) + 1) + 1) + 1) + 1) + 1) e_u51 (by omega) hv52) (fun r v' hq => ?_)
  rw [hq.1, hq.2]
  clear hq r v'
  show ST G mi_Fi_save 58 [(5, .int (nI 30)), (3, .long z57), (6, .int (nI 3)), (0, .ref 78), (1, .ref f), (2, .ref b)] [] (va_up u51 bj (nI ((((((((((k + 1) + 1) + 1) + 1) + 1) + 1) + 1) + 1) + 1) + 1))) 0 0 _
  have hv60 := hv52.up (j := bj) (c := bc) (k := ((((((((((k + 1) + 1) + 1) + 1) + 1) + 1) + 1) + 1) + 1) + 1)) y_b.2.2.2.2.1 (by omega)
  have hm61 := hm53.go (mdf.up (v := u51) (j := bj) (x := (nI ((((((((((k + 1) + 1) + 1) + 1) + 1) + 1) + 1) + 1) + 1) + 1)))) (by intro i hi; simp only [List.mem_cons, List.not_mem_nil, or_false] at hi ⊢ <;> omega)
  have e_u59 : (va_up u51 bj (nI ((((((((((k + 1) + 1) + 1) + 1) + 1) + 1) + 1) + 1) + 1) + 1))) bj = (nI ((((((((((k + 1) + 1) + 1) + 1) + 1) + 1) + 1) + 1) + 1) + 1)) := by simp [va_up]
  generalize va_up u51 bj (nI ((((((((((k + 1) + 1) + 1) + 1) + 1) + 1) + 1) + 1) + 1) + 1)) = u59 at hv60 hm61 e_u59 ⊢
  refine ST.lift (fun _ _ k => T_lload_n d_Fi_save_58 rfl k) ?_
  refine ST.lift (fun _ _ k => T_bipush (v := nI 8) d_Fi_save_59 (by decide) k) ?_
  refine ST.lift (fun _ _ k => T_lshr d_Fi_save_61 k) (S_anyl fun z62 => ?_)
  refine ST.lift (fun _ _ k => T_lstore_n (L' := [(3, .long z62), (5, .int (nI 30)), (6, .int (nI 3)), (0, .ref 78), (1, .ref f), (2, .ref b)]) d_Fi_save_62 (by decide) rfl k) ?_
  refine ST.lift (fun _ _ k => T_iinc (x := nI 30) (L' := [(5, .int (nI 22)), (3, .long z62), (6, .int (nI 3)), (0, .ref 78), (1, .ref f), (2, .ref b)]) d_Fi_save_63 (by decide) rfl (by rw [show nI 30 + Int32.ofInt (-8) = nI 22 by decide]; rfl) k) ?_
  refine ST.lift (fun _ _ k => T_goto (tgt := 45) d_Fi_save_66 rfl k) ?_
  refine ST.lift (fun _ _ k => T_iload d_Fi_save_45 rfl k) ?_
  refine ST.lift (fun _ _ k => T_bipush (v := nI 8) d_Fi_save_47 (by decide) k) ?_
  refine S_icmp_ltN d_Fi_save_49 rfl (by omega) (by omega) (fun c => by first | exact absurd c (by omega) | exact c.elim | exact absurd c (by decide) | exact absurd (by assumption) c | exact absurd c (by assumption)) (fun _ => ?_)
  refine ST.lift (fun _ _ k => T_aload_n (v := .ref b) d_Fi_save_52 rfl (Or.inr ⟨_, rfl⟩) k) ?_
  refine ST.lift (fun _ _ k => T_lload_n d_Fi_save_53 rfl k) ?_
  refine ST.lift (fun _ _ k => T_l2i d_Fi_save_54 k) (S_anyi fun z63 => ?_)
  refine S_virtual (as := [.int z63]) (rest := []) (b := b) d_Fi_save_55 rfl (jw_By_putByte.jo (by decide)) lm_Fi_47 ji_By_putByte js_By_putByte (y_b.1 _) rfl rfl rfl (Nat.le_of_ble_eq_true rfl) (by decide) (by decide) (c_By_putByte_ex G u59 b bd bc bj y_b z63 ((((((((((k + 1) + 1) + 1) + 1) + 1) + 1) + 1) + 1) + 1) + 1) e_u59 (by omega) hv60) (fun r v' hq => ?_)
  rw [hq.1, hq.2]
  clear hq r v'
  show ST G mi_Fi_save 58 [(5, .int (nI 22)), (3, .long z62), (6, .int (nI 3)), (0, .ref 78), (1, .ref f), (2, .ref b)] [] (va_up u59 bj (nI (((((((((((k + 1) + 1) + 1) + 1) + 1) + 1) + 1) + 1) + 1) + 1) + 1))) 0 0 _
  have hv65 := hv60.up (j := bj) (c := bc) (k := (((((((((((k + 1) + 1) + 1) + 1) + 1) + 1) + 1) + 1) + 1) + 1) + 1)) y_b.2.2.2.2.1 (by omega)
  have hm66 := hm61.go (mdf.up (v := u59) (j := bj) (x := (nI (((((((((((k + 1) + 1) + 1) + 1) + 1) + 1) + 1) + 1) + 1) + 1) + 1)))) (by intro i hi; simp only [List.mem_cons, List.not_mem_nil, or_false] at hi ⊢ <;> omega)
  have e_u64 : (va_up u59 bj (nI (((((((((((k + 1) + 1) + 1) + 1) + 1) + 1) + 1) + 1) + 1) + 1) + 1))) bj = (nI (((((((((((k + 1) + 1) + 1) + 1) + 1) + 1) + 1) + 1) + 1) + 1) + 1)) := by simp [va_up]
  generalize va_up u59 bj (nI (((((((((((k + 1) + 1) + 1) + 1) + 1) + 1) + 1) + 1) + 1) + 1) + 1)) = u64 at hv65 hm66 e_u64 ⊢
  refine ST.lift (fun _ _ k => T_lload_n d_Fi_save_58 rfl k) ?_
  refine ST.lift (fun _ _ k => T_bipush (v := nI 8) d_Fi_save_59 (by decide) k) ?_
  refine ST.lift (fun _ _ k => T_lshr d_Fi_save_61 k) (S_anyl fun z67 => ?_)
  refine ST.lift (fun _ _ k => T_lstore_n (L' := [(3, .long z67), (5, .int (nI 22)), (6, .int (nI 3)), (0, .ref 78), (1, .ref f), (2, .ref b)]) d_Fi_save_62 (by decide) rfl k) ?_
  refine ST.lift (fun _ _ k => T_iinc (x := nI 22) (L' := [(5, .int (nI 14)), (3, .long z67), (6, .int (nI 3)), (0, .ref 78), (1, .ref f), (2, .ref b)]) d_Fi_save_63 (by decide) rfl (by rw [show nI 22 + Int32.ofInt (-8) = nI 14 by decide]; rfl) k) ?_
  refine ST.lift (fun _ _ k => T_goto (tgt := 45) d_Fi_save_66 rfl k) ?_
  refine ST.lift (fun _ _ k => T_iload d_Fi_save_45 rfl k) ?_
  refine ST.lift (fun _ _ k => T_bipush (v := nI 8) d_Fi_save_47 (by decide) k) ?_
  refine S_icmp_ltN d_Fi_save_49 rfl (by omega) (by omega) (fun c => by first | exact absurd c (by omega) | exact c.elim | exact absurd c (by decide) | exact absurd (by assumption) c | exact absurd c (by assumption)) (fun _ => ?_)
  refine ST.lift (fun _ _ k => T_aload_n (v := .ref b) d_Fi_save_52 rfl (Or.inr ⟨_, rfl⟩) k) ?_
  refine ST.lift (fun _ _ k => T_lload_n d_Fi_save_53 rfl k) ?_
  refine ST.lift (fun _ _ k => T_l2i d_Fi_save_54 k) (S_anyi fun z68 => ?_)
  refine S_virtual (as := [.int z68]) (rest := []) (b := b) d_Fi_save_55 rfl (jw_By_putByte.jo (by decide)) lm_Fi_47 ji_By_putByte js_By_putByte (y_b.1 _) rfl rfl rfl (Nat.le_of_ble_eq_true rfl) (by decide) (by decide) (c_By_putByte_ex G u64 b bd bc bj y_b z68 (((((((((((k + 1) + 1) + 1) + 1) + 1) + 1) + 1) + 1) + 1) + 1) + 1) e_u64 (by omega) hv65) (fun r v' hq => ?_)
  rw [hq.1, hq.2]
  clear hq r v'
  show ST G mi_Fi_save 58 [(5, .int (nI 14)), (3, .long z67), (6, .int (nI 3)), (0, .ref 78), (1, .ref f), (2, .ref b)] [] (va_up u64 bj (nI ((((((((((((k + 1) + 1) + 1) + 1) + 1) + 1) + 1) + 1) + 1) + 1) + 1) + 1))) 0 0 _
  have hv70 := hv65.up (j := bj) (c := bc) (k := ((((((((((((k + 1) + 1) + 1) + 1) + 1) + 1) + 1) + 1) + 1) + 1) + 1) + 1)) y_b.2.2.2.2.1 (by omega)
  have hm71 := hm66.go (mdf.up (v := u64) (j := bj) (x := (nI ((((((((((((k + 1) + 1) + 1) + 1) + 1) + 1) + 1) + 1) + 1) + 1) + 1) + 1)))) (by intro i hi; simp only [List.mem_cons, List.not_mem_nil, or_false] at hi ⊢ <;> omega)
  have e_u69 : (va_up u64 bj (nI ((((((((((((k + 1) + 1) + 1) + 1) + 1) + 1) + 1) + 1) + 1) + 1) + 1) + 1))) bj = (nI ((((((((((((k + 1) + 1) + 1) + 1) + 1) + 1) + 1) + 1) + 1) + 1) + 1) + 1)) := by simp [va_up]
  generalize va_up u64 bj (nI ((((((((((((k + 1) + 1) + 1) + 1) + 1) + 1) + 1) + 1) + 1) + 1) + 1) + 1)) = u69 at hv70 hm71 e_u69 ⊢
  refine ST.lift (fun _ _ k => T_lload_n d_Fi_save_58 rfl k) ?_
  refine ST.lift (fun _ _ k => T_bipush (v := nI 8) d_Fi_save_59 (by decide) k) ?_
  refine ST.lift (fun _ _ k => T_lshr d_Fi_save_61 k) (S_anyl fun z72 => ?_)
  refine ST.lift (fun _ _ k => T_lstore_n (L' := [(3, .long z72), (5, .int (nI 14)), (6, .int (nI 3)), (0, .ref 78), (1, .ref f), (2, .ref b)]) d_Fi_save_62 (by decide) rfl k) ?_
  refine ST.lift (fun _ _ k => T_iinc (x := nI 14) (L' := [(5, .int (nI 6)), (3, .long z72), (6, .int (nI 3)), (0, .ref 78), (1, .ref f), (2, .ref b)]) d_Fi_save_63 (by decide) rfl (by rw [show nI 14 + Int32.ofInt (-8) = nI 6 by decide]; rfl) k) ?_
  refine ST.lift (fun _ _ k => T_goto (tgt := 45) d_Fi_save_66 rfl k) ?_
  refine ST.lift (fun _ _ k => T_iload d_Fi_save_45 rfl k) ?_
  refine ST.lift (fun _ _ k => T_bipush (v := nI 8) d_Fi_save_47 (by decide) k) ?_
  refine S_icmp_ltN d_Fi_save_49 rfl (by omega) (by omega) (fun _ => ?_) (fun c => by first | exact absurd c (by omega) | exact c.elim | exact absurd c (by decide) | exact absurd (by assumption) c | exact absurd c (by assumption))
  refine S_iincN (a := 3) (b := 1) (L' := [(6, .int (nI 4)), (5, .int (nI 6)), (3, .long z72), (0, .ref 78), (1, .ref f), (2, .ref b)]) d_Fi_save_69 (by decide) rfl rfl rfl ?_
  refine ST.lift (fun _ _ k => T_goto (tgt := 13) d_Fi_save_72 rfl k) ?_
  refine ST.lift (fun _ _ k => T_iload d_Fi_save_13 rfl k) ?_
  refine ST.lift (fun _ _ k => T_bipush (v := nI 10) d_Fi_save_15 (by decide) k) ?_
  refine S_icmp_geN d_Fi_save_17 rfl (by omega) (by omega) (fun c => by first | exact absurd c (by omega) | exact c.elim | exact absurd c (by decide) | exact absurd (by assumption) c | exact absurd c (by assumption)) (fun _ => ?_)
  refine ST.lift (fun _ _ k => T_lload_n d_Fi_save_20 rfl k) ?_
  refine ST.lift (fun _ _ k => T_aload_n (v := .ref 78) d_Fi_save_21 rfl (Or.inr ⟨_, rfl⟩) k) ?_
  refine S_getfield d_Fi_save_22 fg_Fi_9 (w78 _) rfl ?_
  refine ST.lift (fun _ _ k => T_iload d_Fi_save_25 rfl k) ?_
  refine S_laload d_Fi_save_27 a79 (vp_in_nI (by omega) (by omega)) (fun z73 => ?_)
  refine ST.lift (fun _ _ k => T_iload d_Fi_save_28 rfl k) ?_
  refine ST.lift (fun _ _ k => T_lshl d_Fi_save_30 k) (S_anyl fun z74 => ?_)
  refine ST.lift (fun _ _ k => T_lor d_Fi_save_31 k) (S_anyl fun z75 => ?_)
  refine ST.lift (fun _ _ k => T_lstore_n (L' := [(3, .long z75), (6, .int (nI 4)), (5, .int (nI 6)), (0, .ref 78), (1, .ref f), (2, .ref b)]) d_Fi_save_32 (by decide) rfl k) ?_
  refine ST.lift (fun _ _ k => T_iload d_Fi_save_33 rfl k) ?_
  refine ST.lift (fun _ _ k => T_bipush (v := nI 26) d_Fi_save_35 (by decide) k) ?_
  refine ST.lift (fun _ _ k => T_iload d_Fi_save_37 rfl k) ?_
  refine ST.lift (fun _ _ k => T_iconst (v := nI 1) d_Fi_save_39 (by decide) k) ?_
  refine S_iandN 1 d_Fi_save_40 (by omega) (by decide) (by decide) ?_
  refine S_topi (y := nI 0) (by decide) ?_
  refine S_isubN d_Fi_save_41 (by omega) ?_
  refine S_topi (y := nI 26) (by decide) ?_
  refine S_iaddN d_Fi_save_42 ?_
  refine S_topi (y := nI 32) (by decide) ?_
  refine ST.lift (fun _ _ k => T_istore (L' := [(5, .int (nI 32)), (3, .long z75), (6, .int (nI 4)), (0, .ref 78), (1, .ref f), (2, .ref b)]) d_Fi_save_43 (by decide) rfl k) ?_
  refine ST.lift (fun _ _ k => T_iload d_Fi_save_45 rfl k) ?_
  refine ST.lift (fun _ _ k => T_bipush (v := nI 8) d_Fi_save_47 (by decide) k) ?_
  refine S_icmp_ltN d_Fi_save_49 rfl (by omega) (by omega) (fun c => by first | exact absurd c (by omega) | exact c.elim | exact absurd c (by decide) | exact absurd (by assumption) c | exact absurd c (by assumption)) (fun _ => ?_)
  refine ST.lift (fun _ _ k => T_aload_n (v := .ref b) d_Fi_save_52 rfl (Or.inr ⟨_, rfl⟩) k) ?_
  refine ST.lift (fun _ _ k => T_lload_n d_Fi_save_53 rfl k) ?_
  refine ST.lift (fun _ _ k => T_l2i d_Fi_save_54 k) (S_anyi fun z76 => ?_)
  refine S_virtual (as := [.int z76]) (rest := []) (b := b) d_Fi_save_55 rfl (jw_By_putByte.jo (by decide)) lm_Fi_47 ji_By_putByte js_By_putByte (y_b.1 _) rfl rfl rfl (Nat.le_of_ble_eq_true rfl) (by decide) (by decide) (c_By_putByte_ex G u69 b bd bc bj y_b z76 ((((((((((((k + 1) + 1) + 1) + 1) + 1) + 1) + 1) + 1) + 1) + 1) + 1) + 1) e_u69 (by omega) hv70) (fun r v' hq => ?_)
  rw [hq.1, hq.2]
  clear hq r v'
  show ST G mi_Fi_save 58 [(5, .int (nI 32)), (3, .long z75), (6, .int (nI 4)), (0, .ref 78), (1, .ref f), (2, .ref b)] [] (va_up u69 bj (nI (((((((((((((k + 1) + 1) + 1) + 1) + 1) + 1) + 1) + 1) + 1) + 1) + 1) + 1) + 1))) 0 0 _
  have hv78 := hv70.up (j := bj) (c := bc) (k := (((((((((((((k + 1) + 1) + 1) + 1) + 1) + 1) + 1) + 1) + 1) + 1) + 1) + 1) + 1)) y_b.2.2.2.2.1 (by omega)
  have hm79 := hm71.go (mdf.up (v := u69) (j := bj) (x := (nI (((((((((((((k + 1) + 1) + 1) + 1) + 1) + 1) + 1) + 1) + 1) + 1) + 1) + 1) + 1)))) (by intro i hi; simp only [List.mem_cons, List.not_mem_nil, or_false] at hi ⊢ <;> omega)
  have e_u77 : (va_up u69 bj (nI (((((((((((((k + 1) + 1) + 1) + 1) + 1) + 1) + 1) + 1) + 1) + 1) + 1) + 1) + 1))) bj = (nI (((((((((((((k + 1) + 1) + 1) + 1) + 1) + 1) + 1) + 1) + 1) + 1) + 1) + 1) + 1)) := by simp [va_up]
  generalize va_up u69 bj (nI (((((((((((((k + 1) + 1) + 1) + 1) + 1) + 1) + 1) + 1) + 1) + 1) + 1) + 1) + 1)) = u77 at hv78 hm79 e_u77 ⊢
  refine ST.lift (fun _ _ k => T_lload_n d_Fi_save_58 rfl k) ?_
  refine ST.lift (fun _ _ k => T_bipush (v := nI 8) d_Fi_save_59 (by decide) k) ?_
  refine ST.lift (fun _ _ k => T_lshr d_Fi_save_61 k) (S_anyl fun z80 => ?_)
  refine ST.lift (fun _ _ k => T_lstore_n (L' := [(3, .long z80), (5, .int (nI 32)), (6, .int (nI 4)), (0, .ref 78), (1, .ref f), (2, .ref b)]) d_Fi_save_62 (by decide) rfl k) ?_
  refine ST.lift (fun _ _ k => T_iinc (x := nI 32) (L' := [(5, .int (nI 24)), (3, .long z80), (6, .int (nI 4)), (0, .ref 78), (1, .ref f), (2, .ref b)]) d_Fi_save_63 (by decide) rfl (by rw [show nI 32 + Int32.ofInt (-8) = nI 24 by decide]; rfl) k) ?_
  refine ST.lift (fun _ _ k => T_goto (tgt := 45) d_Fi_save_66 rfl k) ?_
  refine ST.lift (fun _ _ k => T_iload d_Fi_save_45 rfl k) ?_
  refine ST.lift (fun _ _ k => T_bipush (v := nI 8) d_Fi_save_47 (by decide) k) ?_
  refine S_icmp_ltN d_Fi_save_49 rfl (by omega) (by omega) (fun c => by first | exact absurd c (by omega) | exact c.elim | exact absurd c (by decide) | exact absurd (by assumption) c | exact absurd c (by assumption)) (fun _ => ?_)
  refine ST.lift (fun _ _ k => T_aload_n (v := .ref b) d_Fi_save_52 rfl (Or.inr ⟨_, rfl⟩) k) ?_
  refine ST.lift (fun _ _ k => T_lload_n d_Fi_save_53 rfl k) ?_
  refine ST.lift (fun _ _ k => T_l2i d_Fi_save_54 k) (S_anyi fun z81 => ?_)
  refine S_virtual (as := [.int z81]) (rest := []) (b := b) d_Fi_save_55 rfl (jw_By_putByte.jo (by decide)) lm_Fi_47 ji_By_putByte js_By_putByte (y_b.1 _) rfl rfl rfl (Nat.le_of_ble_eq_true rfl) (by decide) (by decide) (c_By_putByte_ex G u77 b bd bc bj y_b z81 (((((((((((((k + 1) + 1) + 1) + 1) + 1) + 1) + 1) + 1) + 1) + 1) + 1) + 1) + 1) e_u77 (by omega) hv78) (fun r v' hq => ?_)
  rw [hq.1, hq.2]
  clear hq r v'
  show ST G mi_Fi_save 58 [(5, .int (nI 24)), (3, .long z80), (6, .int (nI 4)), (0, .ref 78), (1, .ref f), (2, .ref b)] [] (va_up u77 bj (nI ((((((((((((((k + 1) + 1) + 1) + 1) + 1) + 1) + 1) + 1) + 1) + 1) + 1) + 1) + 1) + 1))) 0 0 _
  have hv83 := hv78.up (j := bj) (c := bc) (k := ((((((((((((((k + 1) + 1) + 1) + 1) + 1) + 1) + 1) + 1) + 1) + 1) + 1) + 1) + 1) + 1)) y_b.2.2.2.2.1 (by omega)
  have hm84 := hm79.go (mdf.up (v := u77) (j := bj) (x := (nI ((((((((((((((k + 1) + 1) + 1) + 1) + 1) + 1) + 1) + 1) + 1) + 1) + 1) + 1) + 1) + 1)))) (by intro i hi; simp only [List.mem_cons, List.not_mem_nil, or_false] at hi ⊢ <;> omega)
  have e_u82 : (va_up u77 bj (nI ((((((((((((((k + 1) + 1) + 1) + 1) + 1) + 1) + 1) + 1) + 1) + 1) + 1) + 1) + 1) + 1))) bj = (nI ((((((((((((((k + 1) + 1) + 1) + 1) + 1) + 1) + 1) + 1) + 1) + 1) + 1) + 1) + 1) + 1)) := by simp [va_up]
  generalize va_up u77 bj (nI ((((((((((((((k + 1) + 1) + 1) + 1) + 1) + 1) + 1) + 1) + 1) + 1) + 1) + 1) + 1) + 1)) = u82 at hv83 hm84 e_u82 ⊢
  refine ST.lift (fun _ _ k => T_lload_n d_Fi_save_58 rfl k) ?_
  refine ST.lift (fun _ _ k => T_bipush (v := nI 8) d_Fi_save_59 (by decide) k) ?_
  refine ST.lift (fun _ _ k => T_lshr d_Fi_save_61 k) (S_anyl fun z85 => ?_)
  refine ST.lift (fun _ _ k => T_lstore_n (L' := [(3, .long z85), (5, .int (nI 24)), (6, .int (nI 4)), (0, .ref 78), (1, .ref f), (2, .ref b)]) d_Fi_save_62 (by decide) rfl k) ?_
  refine ST.lift (fun _ _ k => T_iinc (x := nI 24) (L' := [(5, .int (nI 16)), (3, .long z85), (6, .int (nI 4)), (0, .ref 78), (1, .ref f), (2, .ref b)]) d_Fi_save_63 (by decide) rfl (by rw [show nI 24 + Int32.ofInt (-8) = nI 16 by decide]; rfl) k) ?_
  refine ST.lift (fun _ _ k => T_goto (tgt := 45) d_Fi_save_66 rfl k) ?_
  refine ST.lift (fun _ _ k => T_iload d_Fi_save_45 rfl k) ?_
  refine ST.lift (fun _ _ k => T_bipush (v := nI 8) d_Fi_save_47 (by decide) k) ?_
  refine S_icmp_ltN d_Fi_save_49 rfl (by omega) (by omega) (fun c => by first | exact absurd c (by omega) | exact c.elim | exact absurd c (by decide) | exact absurd (by assumption) c | exact absurd c (by assumption)) (fun _ => ?_)
  refine ST.lift (fun _ _ k => T_aload_n (v := .ref b) d_Fi_save_52 rfl (Or.inr ⟨_, rfl⟩) k) ?_
  refine ST.lift (fun _ _ k => T_lload_n d_Fi_save_53 rfl k) ?_
  refine ST.lift (fun _ _ k => T_l2i d_Fi_save_54 k) (S_anyi fun z86 => ?_)
  refine S_virtual (as := [.int z86]) (rest := []) (b := b) d_Fi_save_55 rfl (jw_By_putByte.jo (by decide)) lm_Fi_47 ji_By_putByte js_By_putByte (y_b.1 _) rfl rfl rfl (Nat.le_of_ble_eq_true rfl) (by decide) (by decide) (c_By_putByte_ex G u82 b bd bc bj y_b z86 ((((((((((((((k + 1) + 1) + 1) + 1) + 1) + 1) + 1) + 1) + 1) + 1) + 1) + 1) + 1) + 1) e_u82 (by omega) hv83) (fun r v' hq => ?_)
  rw [hq.1, hq.2]
  clear hq r v'
  show ST G mi_Fi_save 58 [(5, .int (nI 16)), (3, .long z85), (6, .int (nI 4)), (0, .ref 78), (1, .ref f), (2, .ref b)] [] (va_up u82 bj (nI (((((((((((((((k + 1) + 1) + 1) + 1) + 1) + 1) + 1) + 1) + 1) + 1) + 1) + 1) + 1) + 1) + 1))) 0 0 _
  have hv88 := hv83.up (j := bj) (c := bc) (k := (((((((((((((((k + 1) + 1) + 1) + 1) + 1) + 1) + 1) + 1) + 1) + 1) + 1) + 1) + 1) + 1) + 1)) y_b.2.2.2.2.1 (by omega)
  have hm89 := hm84.go (mdf.up (v := u82) (j := bj) (x := (nI (((((((((((((((k + 1) + 1) + 1) + 1) + 1) + 1) + 1) + 1) + 1) + 1) + 1) + 1) + 1) + 1) + 1)))) (by intro i hi; simp only [List.mem_cons, List.not_mem_nil, or_false] at hi ⊢ <;> omega)
  have e_u87 : (va_up u82 bj (nI (((((((((((((((k + 1) + 1) + 1) + 1) + 1) + 1) + 1) + 1) + 1) + 1) + 1) + 1) + 1) + 1) + 1))) bj = (nI (((((((((((((((k + 1) + 1) + 1) + 1) + 1) + 1) + 1) + 1) + 1) + 1) + 1) + 1) + 1) + 1) + 1)) := by simp [va_up]
  generalize va_up u82 bj (nI (((((((((((((((k + 1) + 1) + 1) + 1) + 1) + 1) + 1) + 1) + 1) + 1) + 1) + 1) + 1) + 1) + 1)) = u87 at hv88 hm89 e_u87 ⊢
  refine ST.lift (fun _ _ k => T_lload_n d_Fi_save_58 rfl k) ?_
  refine ST.lift (fun _ _ k => T_bipush (v := nI 8) d_Fi_save_59 (by decide) k) ?_
  refine ST.lift (fun _ _ k => T_lshr d_Fi_save_61 k) (S_anyl fun z90 => ?_)
  refine ST.lift (fun _ _ k => T_lstore_n (L' := [(3, .long z90), (5, .int (nI 16)), (6, .int (nI 4)), (0, .ref 78), (1, .ref f), (2, .ref b)]) d_Fi_save_62 (by decide) rfl k) ?_
  refine ST.lift (fun _ _ k => T_iinc (x := nI 16) (L' := [(5, .int (nI 8)), (3, .long z90), (6, .int (nI 4)), (0, .ref 78), (1, .ref f), (2, .ref b)]) d_Fi_save_63 (by decide) rfl (by rw [show nI 16 + Int32.ofInt (-8) = nI 8 by decide]; rfl) k) ?_
  refine ST.lift (fun _ _ k => T_goto (tgt := 45) d_Fi_save_66 rfl k) ?_
  refine ST.lift (fun _ _ k => T_iload d_Fi_save_45 rfl k) ?_
  refine ST.lift (fun _ _ k => T_bipush (v := nI 8) d_Fi_save_47 (by decide) k) ?_
  refine S_icmp_ltN d_Fi_save_49 rfl (by omega) (by omega) (fun c => by first | exact absurd c (by omega) | exact c.elim | exact absurd c (by decide) | exact absurd (by assumption) c | exact absurd c (by assumption)) (fun _ => ?_)
  refine ST.lift (fun _ _ k => T_aload_n (v := .ref b) d_Fi_save_52 rfl (Or.inr ⟨_, rfl⟩) k) ?_
  refine ST.lift (fun _ _ k => T_lload_n d_Fi_save_53 rfl k) ?_
  refine ST.lift (fun _ _ k => T_l2i d_Fi_save_54 k) (S_anyi fun z91 => ?_)
  refine S_virtual (as := [.int z91]) (rest := []) (b := b) d_Fi_save_55 rfl (jw_By_putByte.jo (by decide)) lm_Fi_47 ji_By_putByte js_By_putByte (y_b.1 _) rfl rfl rfl (Nat.le_of_ble_eq_true rfl) (by decide) (by decide) (c_By_putByte_ex G u87 b bd bc bj y_b z91 (((((((((((((((k + 1) + 1) + 1) + 1) + 1) + 1) + 1) + 1) + 1) + 1) + 1) + 1) + 1) + 1) + 1) e_u87 (by omega) hv88) (fun r v' hq => ?_)
  rw [hq.1, hq.2]
  clear hq r v'
  show ST G mi_Fi_save 58 [(5, .int (nI 8)), (3, .long z90), (6, .int (nI 4)), (0, .ref 78), (1, .ref f), (2, .ref b)] [] (va_up u87 bj (nI ((((((((((((((((k + 1) + 1) + 1) + 1) + 1) + 1) + 1) + 1) + 1) + 1) + 1) + 1) + 1) + 1) + 1) + 1))) 0 0 _
  have hv93 := hv88.up (j := bj) (c := bc) (k := ((((((((((((((((k + 1) + 1) + 1) + 1) + 1) + 1) + 1) + 1) + 1) + 1) + 1) + 1) + 1) + 1) + 1) + 1)) y_b.2.2.2.2.1 (by omega)
  have hm94 := hm89.go (mdf.up (v := u87) (j := bj) (x := (nI ((((((((((((((((k + 1) + 1) + 1) + 1) + 1) + 1) + 1) + 1) + 1) + 1) + 1) + 1) + 1) + 1) + 1) + 1)))) (by intro i hi; simp only [List.mem_cons, List.not_mem_nil, or_false] at hi ⊢ <;> omega)
  have e_u92 : (va_up u87 bj (nI ((((((((((((((((k + 1) + 1) + 1) + 1) + 1) + 1) + 1) + 1) + 1) + 1) + 1) + 1) + 1) + 1) + 1) + 1))) bj = (nI ((((((((((((((((k + 1) + 1) + 1) + 1) + 1) + 1) + 1) + 1) + 1) + 1) + 1) + 1) + 1) + 1) + 1) + 1)) := by simp [va_up]
  generalize va_up u87 bj (nI ((((((((((((((((k + 1) + 1) + 1) + 1) + 1) + 1) + 1) + 1) + 1) + 1) + 1) + 1) + 1) + 1) + 1) + 1)) = u92 at hv93 hm94 e_u92 ⊢
  refine ST.lift (fun _ _ k => T_lload_n d_Fi_save_58 rfl k) ?_
  refine ST.lift (fun _ _ k => T_bipush (v := nI 8) d_Fi_save_59 (by decide) k) ?_
  refine ST.lift (fun _ _ k => T_lshr d_Fi_save_61 k) (S_anyl fun z95 => ?_)
  refine ST.lift (fun _ _ k => T_lstore_n (L' := [(3, .long z95), (5, .int (nI 8)), (6, .int (nI 4)), (0, .ref 78), (1, .ref f), (2, .ref b)]) d_Fi_save_62 (by decide) rfl k) ?_
  refine ST.lift (fun _ _ k => T_iinc (x := nI 8) (L' := [(5, .int (nI 0)), (3, .long z95), (6, .int (nI 4)), (0, .ref 78), (1, .ref f), (2, .ref b)]) d_Fi_save_63 (by decide) rfl (by rw [show nI 8 + Int32.ofInt (-8) = nI 0 by decide]; rfl) k) ?_
  refine ST.lift (fun _ _ k => T_goto (tgt := 45) d_Fi_save_66 rfl k) ?_
  refine ST.lift (fun _ _ k => T_iload d_Fi_save_45 rfl k) ?_
  refine ST.lift (fun _ _ k => T_bipush (v := nI 8) d_Fi_save_47 (by decide) k) ?_
  refine S_icmp_ltN d_Fi_save_49 rfl (by omega) (by omega) (fun _ => ?_) (fun c => by first | exact absurd c (by omega) | exact c.elim | exact absurd c (by decide) | exact absurd (by assumption) c | exact absurd c (by assumption))
  refine S_iincN (a := 4) (b := 1) (L' := [(6, .int (nI 5)), (5, .int (nI 0)), (3, .long z95), (0, .ref 78), (1, .ref f), (2, .ref b)]) d_Fi_save_69 (by decide) rfl rfl rfl ?_
  refine ST.lift (fun _ _ k => T_goto (tgt := 13) d_Fi_save_72 rfl k) ?_
  refine ST.lift (fun _ _ k => T_iload d_Fi_save_13 rfl k) ?_
  refine ST.lift (fun _ _ k => T_bipush (v := nI 10) d_Fi_save_15 (by decide) k) ?_
  refine S_icmp_geN d_Fi_save_17 rfl (by omega) (by omega) (fun c => by first | exact absurd c (by omega) | exact c.elim | exact absurd c (by decide) | exact absurd (by assumption) c | exact absurd c (by assumption)) (fun _ => ?_)
  refine ST.lift (fun _ _ k => T_lload_n d_Fi_save_20 rfl k) ?_
  refine ST.lift (fun _ _ k => T_aload_n (v := .ref 78) d_Fi_save_21 rfl (Or.inr ⟨_, rfl⟩) k) ?_
  refine S_getfield d_Fi_save_22 fg_Fi_9 (w78 _) rfl ?_
  refine ST.lift (fun _ _ k => T_iload d_Fi_save_25 rfl k) ?_
  refine S_laload d_Fi_save_27 a79 (vp_in_nI (by omega) (by omega)) (fun z96 => ?_)
  refine ST.lift (fun _ _ k => T_iload d_Fi_save_28 rfl k) ?_
  refine ST.lift (fun _ _ k => T_lshl d_Fi_save_30 k) (S_anyl fun z97 => ?_)
  refine ST.lift (fun _ _ k => T_lor d_Fi_save_31 k) (S_anyl fun z98 => ?_)
  refine ST.lift (fun _ _ k => T_lstore_n (L' := [(3, .long z98), (6, .int (nI 5)), (5, .int (nI 0)), (0, .ref 78), (1, .ref f), (2, .ref b)]) d_Fi_save_32 (by decide) rfl k) ?_
  refine ST.lift (fun _ _ k => T_iload d_Fi_save_33 rfl k) ?_
  refine ST.lift (fun _ _ k => T_bipush (v := nI 26) d_Fi_save_35 (by decide) k) ?_
  refine ST.lift (fun _ _ k => T_iload d_Fi_save_37 rfl k) ?_
  refine ST.lift (fun _ _ k => T_iconst (v := nI 1) d_Fi_save_39 (by decide) k) ?_
  refine S_iandN 1 d_Fi_save_40 (by omega) (by decide) (by decide) ?_
  refine S_topi (y := nI 1) (by decide) ?_
  refine S_isubN d_Fi_save_41 (by omega) ?_
  refine S_topi (y := nI 25) (by decide) ?_
  refine S_iaddN d_Fi_save_42 ?_
  refine S_topi (y := nI 25) (by decide) ?_
  refine ST.lift (fun _ _ k => T_istore (L' := [(5, .int (nI 25)), (3, .long z98), (6, .int (nI 5)), (0, .ref 78), (1, .ref f), (2, .ref b)]) d_Fi_save_43 (by decide) rfl k) ?_
  refine ST.lift (fun _ _ k => T_iload d_Fi_save_45 rfl k) ?_
  refine ST.lift (fun _ _ k => T_bipush (v := nI 8) d_Fi_save_47 (by decide) k) ?_
  refine S_icmp_ltN d_Fi_save_49 rfl (by omega) (by omega) (fun c => by first | exact absurd c (by omega) | exact c.elim | exact absurd c (by decide) | exact absurd (by assumption) c | exact absurd c (by assumption)) (fun _ => ?_)
  refine ST.lift (fun _ _ k => T_aload_n (v := .ref b) d_Fi_save_52 rfl (Or.inr ⟨_, rfl⟩) k) ?_
  refine ST.lift (fun _ _ k => T_lload_n d_Fi_save_53 rfl k) ?_
  refine ST.lift (fun _ _ k => T_l2i d_Fi_save_54 k) (S_anyi fun z99 => ?_)
  refine S_virtual (as := [.int z99]) (rest := []) (b := b) d_Fi_save_55 rfl (jw_By_putByte.jo (by decide)) lm_Fi_47 ji_By_putByte js_By_putByte (y_b.1 _) rfl rfl rfl (Nat.le_of_ble_eq_true rfl) (by decide) (by decide) (c_By_putByte_ex G u92 b bd bc bj y_b z99 ((((((((((((((((k + 1) + 1) + 1) + 1) + 1) + 1) + 1) + 1) + 1) + 1) + 1) + 1) + 1) + 1) + 1) + 1) e_u92 (by omega) hv93) (fun r v' hq => ?_)
  rw [hq.1, hq.2]
  clear hq r v'
  show ST G mi_Fi_save 58 [(5, .int (nI 25)), (3, .long z98), (6, .int (nI 5)), (0, .ref 78), (1, .ref f), (2, .ref b)] [] (va_up u92 bj (nI (((((((((((((((((k + 1) + 1) + 1) + 1) + 1) + 1) + 1) + 1) + 1) + 1) + 1) + 1) + 1) + 1) + 1) + 1) + 1))) 0 0 _
  have hv101 := hv93.up (j := bj) (c := bc) (k := (((((((((((((((((k + 1) + 1) + 1) + 1) + 1) + 1) + 1) + 1) + 1) + 1) + 1) + 1) + 1) + 1) + 1) + 1) + 1)) y_b.2.2.2.2.1 (by omega)
  have hm102 := hm94.go (mdf.up (v := u92) (j := bj) (x := (nI (((((((((((((((((k + 1) + 1) + 1) + 1) + 1) + 1) + 1) + 1) + 1) + 1) + 1) + 1) + 1) + 1) + 1) + 1) + 1)))) (by intro i hi; simp only [List.mem_cons, List.not_mem_nil, or_false] at hi ⊢ <;> omega)
  have e_u100 : (va_up u92 bj (nI (((((((((((((((((k + 1) + 1) + 1) + 1) + 1) + 1) + 1) + 1) + 1) + 1) + 1) + 1) + 1) + 1) + 1) + 1) + 1))) bj = (nI (((((((((((((((((k + 1) + 1) + 1) + 1) + 1) + 1) + 1) + 1) + 1) + 1) + 1) + 1) + 1) + 1) + 1) + 1) + 1)) := by simp [va_up]
  generalize va_up u92 bj (nI (((((((((((((((((k + 1) + 1) + 1) + 1) + 1) + 1) + 1) + 1) + 1) + 1) + 1) + 1) + 1) + 1) + 1) + 1) + 1)) = u100 at hv101 hm102 e_u100 ⊢
  refine ST.lift (fun _ _ k => T_lload_n d_Fi_save_58 rfl k) ?_
  refine ST.lift (fun _ _ k => T_bipush (v := nI 8) d_Fi_save_59 (by decide) k) ?_
  refine ST.lift (fun _ _ k => T_lshr d_Fi_save_61 k) (S_anyl fun z103 => ?_)
  refine ST.lift (fun _ _ k => T_lstore_n (L' := [(3, .long z103), (5, .int (nI 25)), (6, .int (nI 5)), (0, .ref 78), (1, .ref f), (2, .ref b)]) d_Fi_save_62 (by decide) rfl k) ?_
  refine ST.lift (fun _ _ k => T_iinc (x := nI 25) (L' := [(5, .int (nI 17)), (3, .long z103), (6, .int (nI 5)), (0, .ref 78), (1, .ref f), (2, .ref b)]) d_Fi_save_63 (by decide) rfl (by rw [show nI 25 + Int32.ofInt (-8) = nI 17 by decide]; rfl) k) ?_
  refine ST.lift (fun _ _ k => T_goto (tgt := 45) d_Fi_save_66 rfl k) ?_
  refine ST.lift (fun _ _ k => T_iload d_Fi_save_45 rfl k) ?_
  refine ST.lift (fun _ _ k => T_bipush (v := nI 8) d_Fi_save_47 (by decide) k) ?_
  refine S_icmp_ltN d_Fi_save_49 rfl (by omega) (by omega) (fun c => by first | exact absurd c (by omega) | exact c.elim | exact absurd c (by decide) | exact absurd (by assumption) c | exact absurd c (by assumption)) (fun _ => ?_)
  refine ST.lift (fun _ _ k => T_aload_n (v := .ref b) d_Fi_save_52 rfl (Or.inr ⟨_, rfl⟩) k) ?_
  refine ST.lift (fun _ _ k => T_lload_n d_Fi_save_53 rfl k) ?_
  refine ST.lift (fun _ _ k => T_l2i d_Fi_save_54 k) (S_anyi fun z104 => ?_)
  refine S_virtual (as := [.int z104]) (rest := []) (b := b) d_Fi_save_55 rfl (jw_By_putByte.jo (by decide)) lm_Fi_47 ji_By_putByte js_By_putByte (y_b.1 _) rfl rfl rfl (Nat.le_of_ble_eq_true rfl) (by decide) (by decide) (c_By_putByte_ex G u100 b bd bc bj y_b z104 (((((((((((((((((k + 1) + 1) + 1) + 1) + 1) + 1) + 1) + 1) + 1) + 1) + 1) + 1) + 1) + 1) + 1) + 1) + 1) e_u100 (by omega) hv101) (fun r v' hq => ?_)
  rw [hq.1, hq.2]
  clear hq r v'
  show ST G mi_Fi_save 58 [(5, .int (nI 17)), (3, .long z103), (6, .int (nI 5)), (0, .ref 78), (1, .ref f), (2, .ref b)] [] (va_up u100 bj (nI ((((((((((((((((((k + 1) + 1) + 1) + 1) + 1) + 1) + 1) + 1) + 1) + 1) + 1) + 1) + 1) + 1) + 1) + 1) + 1) + 1))) 0 0 _
  have hv106 := hv101.up (j := bj) (c := bc) (k := ((((((((((((((((((k + 1) + 1) + 1) + 1) + 1) + 1) + 1) + 1) + 1) + 1) + 1) + 1) + 1) + 1) + 1) + 1) + 1) + 1)) y_b.2.2.2.2.1 (by omega)
  have hm107 := hm102.go (mdf.up (v := u100) (j := bj) (x := (nI ((((((((((((((((((k + 1) + 1) + 1) + 1) + 1) + 1) + 1) + 1) + 1) + 1) + 1) + 1) + 1) + 1) + 1) + 1) + 1) + 1)))) (by intro i hi; simp only [List.mem_cons, List.not_mem_nil, or_false] at hi ⊢ <;> omega)
  have e_u105 : (va_up u100 bj (nI ((((((((((((((((((k + 1) + 1) + 1) + 1) + 1) + 1) + 1) + 1) + 1) + 1) + 1) + 1) + 1) + 1) + 1) + 1) + 1) + 1))) bj = (nI ((((((((((((((((((k + 1) + 1) + 1) + 1) + 1) + 1) + 1) + 1) + 1) + 1) + 1) + 1) + 1) + 1) + 1) + 1) + 1) + 1)) := by simp [va_up]
  generalize va_up u100 bj (nI ((((((((((((((((((k + 1) + 1) + 1) + 1) + 1) + 1) + 1) + 1) + 1) + 1) + 1) + 1) + 1) + 1) + 1) + 1) + 1) + 1)) = u105 at hv106 hm107 e_u105 ⊢
  refine ST.lift (fun _ _ k => T_lload_n d_Fi_save_58 rfl k) ?_
  refine ST.lift (fun _ _ k => T_bipush (v := nI 8) d_Fi_save_59 (by decide) k) ?_
  refine ST.lift (fun _ _ k => T_lshr d_Fi_save_61 k) (S_anyl fun z108 => ?_)
  refine ST.lift (fun _ _ k => T_lstore_n (L' := [(3, .long z108), (5, .int (nI 17)), (6, .int (nI 5)), (0, .ref 78), (1, .ref f), (2, .ref b)]) d_Fi_save_62 (by decide) rfl k) ?_
  refine ST.lift (fun _ _ k => T_iinc (x := nI 17) (L' := [(5, .int (nI 9)), (3, .long z108), (6, .int (nI 5)), (0, .ref 78), (1, .ref f), (2, .ref b)]) d_Fi_save_63 (by decide) rfl (by rw [show nI 17 + Int32.ofInt (-8) = nI 9 by decide]; rfl) k) ?_
  refine ST.lift (fun _ _ k => T_goto (tgt := 45) d_Fi_save_66 rfl k) ?_
  refine ST.lift (fun _ _ k => T_iload d_Fi_save_45 rfl k) ?_
  refine ST.lift (fun _ _ k => T_bipush (v := nI 8) d_Fi_save_47 (by decide) k) ?_
  refine S_icmp_ltN d_Fi_save_49 rfl (by omega) (by omega) (fun c => by first | exact absurd c (by omega) | exact c.elim | exact absurd c (by decide) | exact absurd (by assumption) c | exact absurd c (by assumption)) (fun _ => ?_)
  refine ST.lift (fun _ _ k => T_aload_n (v := .ref b) d_Fi_save_52 rfl (Or.inr ⟨_, rfl⟩) k) ?_
  refine ST.lift (fun _ _ k => T_lload_n d_Fi_save_53 rfl k) ?_
  refine ST.lift (fun _ _ k => T_l2i d_Fi_save_54 k) (S_anyi fun z109 => ?_)
  refine S_virtual (as := [.int z109]) (rest := []) (b := b) d_Fi_save_55 rfl (jw_By_putByte.jo (by decide)) lm_Fi_47 ji_By_putByte js_By_putByte (y_b.1 _) rfl rfl rfl (Nat.le_of_ble_eq_true rfl) (by decide) (by decide) (c_By_putByte_ex G u105 b bd bc bj y_b z109 ((((((((((((((((((k + 1) + 1) + 1) + 1) + 1) + 1) + 1) + 1) + 1) + 1) + 1) + 1) + 1) + 1) + 1) + 1) + 1) + 1) e_u105 (by omega) hv106) (fun r v' hq => ?_)
  rw [hq.1, hq.2]
  clear hq r v'
  show ST G mi_Fi_save 58 [(5, .int (nI 9)), (3, .long z108), (6, .int (nI 5)), (0, .ref 78), (1, .ref f), (2, .ref b)] [] (va_up u105 bj (nI (((((((((((((((((((k + 1) + 1) + 1) + 1) + 1) + 1) + 1) + 1) + 1) + 1) + 1) + 1) + 1) + 1) + 1) + 1) + 1) + 1) + 1))) 0 0 _
  have hv111 := hv106.up (j := bj) (c := bc) (k := (((((((((((((((((((k + 1) + 1) + 1) + 1) + 1) + 1) + 1) + 1) + 1) + 1) + 1) + 1) + 1) + 1) + 1) + 1) + 1) + 1) + 1)) y_b.2.2.2.2.1 (by omega)
  have hm112 := hm107.go (mdf.up (v := u105) (j := bj) (x := (nI (((((((((((((((((((k + 1) + 1) + 1) + 1) + 1) + 1) + 1) + 1) + 1) + 1) + 1) + 1) + 1) + 1) + 1) + 1) + 1) + 1) + 1)))) (by intro i hi; simp only [List.mem_cons, List.not_mem_nil, or_false] at hi ⊢ <;> omega)
  have e_u110 : (va_up u105 bj (nI (((((((((((((((((((k + 1) + 1) + 1) + 1) + 1) + 1) + 1) + 1) + 1) + 1) + 1) + 1) + 1) + 1) + 1) + 1) + 1) + 1) + 1))) bj = (nI (((((((((((((((((((k + 1) + 1) + 1) + 1) + 1) + 1) + 1) + 1) + 1) + 1) + 1) + 1) + 1) + 1) + 1) + 1) + 1) + 1) + 1)) := by simp [va_up]
  generalize va_up u105 bj (nI (((((((((((((((((((k + 1) + 1) + 1) + 1) + 1) + 1) + 1) + 1) + 1) + 1) + 1) + 1) + 1) + 1) + 1) + 1) + 1) + 1) + 1)) = u110 at hv111 hm112 e_u110 ⊢
  refine ST.lift (fun _ _ k => T_lload_n d_Fi_save_58 rfl k) ?_
  refine ST.lift (fun _ _ k => T_bipush (v := nI 8) d_Fi_save_59 (by decide) k) ?_
  refine ST.lift (fun _ _ k => T_lshr d_Fi_save_61 k) (S_anyl fun z113 => ?_)
  refine ST.lift (fun _ _ k => T_lstore_n (L' := [(3, .long z113), (5, .int (nI 9)), (6, .int (nI 5)), (0, .ref 78), (1, .ref f), (2, .ref b)]) d_Fi_save_62 (by decide) rfl k) ?_
  refine ST.lift (fun _ _ k => T_iinc (x := nI 9) (L' := [(5, .int (nI 1)), (3, .long z113), (6, .int (nI 5)), (0, .ref 78), (1, .ref f), (2, .ref b)]) d_Fi_save_63 (by decide) rfl (by rw [show nI 9 + Int32.ofInt (-8) = nI 1 by decide]; rfl) k) ?_
  refine ST.lift (fun _ _ k => T_goto (tgt := 45) d_Fi_save_66 rfl k) ?_
  refine ST.lift (fun _ _ k => T_iload d_Fi_save_45 rfl k) ?_
  refine ST.lift (fun _ _ k => T_bipush (v := nI 8) d_Fi_save_47 (by decide) k) ?_
  refine S_icmp_ltN d_Fi_save_49 rfl (by omega) (by omega) (fun _ => ?_) (fun c => by first | exact absurd c (by omega) | exact c.elim | exact absurd c (by decide) | exact absurd (by assumption) c | exact absurd c (by assumption))
  refine S_iincN (a := 5) (b := 1) (L' := [(6, .int (nI 6)), (5, .int (nI 1)), (3, .long z113), (0, .ref 78), (1, .ref f), (2, .ref b)]) d_Fi_save_69 (by decide) rfl rfl rfl ?_
  refine ST.lift (fun _ _ k => T_goto (tgt := 13) d_Fi_save_72 rfl k) ?_
  refine ST.lift (fun _ _ k => T_iload d_Fi_save_13 rfl k) ?_
  refine ST.lift (fun _ _ k => T_bipush (v := nI 10) d_Fi_save_15 (by decide) k) ?_
  refine S_icmp_geN d_Fi_save_17 rfl (by omega) (by omega) (fun c => by first | exact absurd c (by omega) | exact c.elim | exact absurd c (by decide) | exact absurd (by assumption) c | exact absurd c (by assumption)) (fun _ => ?_)
  refine ST.lift (fun _ _ k => T_lload_n d_Fi_save_20 rfl k) ?_
  refine ST.lift (fun _ _ k => T_aload_n (v := .ref 78) d_Fi_save_21 rfl (Or.inr ⟨_, rfl⟩) k) ?_
  refine S_getfield d_Fi_save_22 fg_Fi_9 (w78 _) rfl ?_
  refine ST.lift (fun _ _ k => T_iload d_Fi_save_25 rfl k) ?_
  refine S_laload d_Fi_save_27 a79 (vp_in_nI (by omega) (by omega)) (fun z114 => ?_)
  refine ST.lift (fun _ _ k => T_iload d_Fi_save_28 rfl k) ?_
  refine ST.lift (fun _ _ k => T_lshl d_Fi_save_30 k) (S_anyl fun z115 => ?_)
  refine ST.lift (fun _ _ k => T_lor d_Fi_save_31 k) (S_anyl fun z116 => ?_)
  refine ST.lift (fun _ _ k => T_lstore_n (L' := [(3, .long z116), (6, .int (nI 6)), (5, .int (nI 1)), (0, .ref 78), (1, .ref f), (2, .ref b)]) d_Fi_save_32 (by decide) rfl k) ?_
  refine ST.lift (fun _ _ k => T_iload d_Fi_save_33 rfl k) ?_
  refine ST.lift (fun _ _ k => T_bipush (v := nI 26) d_Fi_save_35 (by decide) k) ?_
  refine ST.lift (fun _ _ k => T_iload d_Fi_save_37 rfl k) ?_
  refine ST.lift (fun _ _ k => T_iconst (v := nI 1) d_Fi_save_39 (by decide) k) ?_
  refine S_iandN 1 d_Fi_save_40 (by omega) (by decide) (by decide) ?_
  refine S_topi (y := nI 0) (by decide) ?_
  refine S_isubN d_Fi_save_41 (by omega) ?_
  refine S_topi (y := nI 26) (by decide) ?_
  refine S_iaddN d_Fi_save_42 ?_
  refine S_topi (y := nI 27) (by decide) ?_
  refine ST.lift (fun _ _ k => T_istore (L' := [(5, .int (nI 27)), (3, .long z116), (6, .int (nI 6)), (0, .ref 78), (1, .ref f), (2, .ref b)]) d_Fi_save_43 (by decide) rfl k) ?_
  refine ST.lift (fun _ _ k => T_iload d_Fi_save_45 rfl k) ?_
  refine ST.lift (fun _ _ k => T_bipush (v := nI 8) d_Fi_save_47 (by decide) k) ?_
  refine S_icmp_ltN d_Fi_save_49 rfl (by omega) (by omega) (fun c => by first | exact absurd c (by omega) | exact c.elim | exact absurd c (by decide) | exact absurd (by assumption) c | exact absurd c (by assumption)) (fun _ => ?_)
  refine ST.lift (fun _ _ k => T_aload_n (v := .ref b) d_Fi_save_52 rfl (Or.inr ⟨_, rfl⟩) k) ?_
  refine ST.lift (fun _ _ k => T_lload_n d_Fi_save_53 rfl k) ?_
  refine ST.lift (fun _ _ k => T_l2i d_Fi_save_54 k) (S_anyi fun z117 => ?_)
  refine S_virtual (as := [.int z117]) (rest := []) (b := b) d_Fi_save_55 rfl (jw_By_putByte.jo (by decide)) lm_Fi_47 ji_By_putByte js_By_putByte (y_b.1 _) rfl rfl rfl (Nat.le_of_ble_eq_true rfl) (by decide) (by decide) (c_By_putByte_ex G u110 b bd bc bj y_b z117 (((((((((((((((((((k + 1) + 1) + 1) + 1) + 1) + 1) + 1) + 1) + 1) + 1) + 1) + 1) + 1) + 1) + 1) + 1) + 1) + 1) + 1) e_u110 (by omega) hv111) (fun r v' hq => ?_)
  rw [hq.1, hq.2]
  clear hq r v'
  show ST G mi_Fi_save 58 [(5, .int (nI 27)), (3, .long z116), (6, .int (nI 6)), (0, .ref 78), (1, .ref f), (2, .ref b)] [] (va_up u110 bj (nI ((((((((((((((((((((k + 1) + 1) + 1) + 1) + 1) + 1) + 1) + 1) + 1) + 1) + 1) + 1) + 1) + 1) + 1) + 1) + 1) + 1) + 1) + 1))) 0 0 _
  have hv119 := hv111.up (j := bj) (c := bc) (k := ((((((((((((((((((((k + 1) + 1) + 1) + 1) + 1) + 1) + 1) + 1) + 1) + 1) + 1) + 1) + 1) + 1) + 1) + 1) + 1) + 1) + 1) + 1)) y_b.2.2.2.2.1 (by omega)
  have hm120 := hm112.go (mdf.up (v := u110) (j := bj) (x := (nI ((((((((((((((((((((k + 1) + 1) + 1) + 1) + 1) + 1) + 1) + 1) + 1) + 1) + 1) + 1) + 1) + 1) + 1) + 1) + 1) + 1) + 1) + 1)))) (by intro i hi; simp only [List.mem_cons, List.not_mem_nil, or_false] at hi ⊢ <;> omega)
  have e_u118 : (va_up u110 bj (nI ((((((((((((((((((((k + 1) + 1) + 1) + 1) + 1) + 1) + 1) + 1) + 1) + 1) + 1) + 1) + 1) + 1) + 1) + 1) + 1) + 1) + 1) + 1))) bj = (nI ((((((((((((((((((((k + 1) + 1) + 1) + 1) + 1) + 1) + 1) + 1) + 1) + 1) + 1) + 1) + 1) + 1) + 1) + 1) + 1) + 1) + 1) + 1)) := by simp [va_up]
  generalize va_up u110 bj (nI ((((((((((((((((((((k + 1) + 1) + 1) + 1) + 1) + 1) + 1) + 1) + 1) + 1) + 1) + 1) + 1) + 1) + 1) + 1) + 1) + 1) + 1) + 1)) = u118 at hv119 hm120 e_u118 ⊢
  refine ST.lift (fun _ _ k => T_lload_n d_Fi_save_58 rfl k) ?_
  refine ST.lift (fun _ _ k => T_bipush (v := nI 8) d_Fi_save_59 (by decide) k) ?_
  refine ST.lift (fun _ _ k => T_lshr d_Fi_save_61 k) (S_anyl fun z121 => ?_)
  refine ST.lift (fun _ _ k => T_lstore_n (L' := [(3, .long z121), (5, .int (nI 27)), (6, .int (nI 6)), (0, .ref 78), (1, .ref f), (2, .ref b)]) d_Fi_save_62 (by decide) rfl k) ?_
  refine ST.lift (fun _ _ k => T_iinc (x := nI 27) (L' := [(5, .int (nI 19)), (3, .long z121), (6, .int (nI 6)), (0, .ref 78), (1, .ref f), (2, .ref b)]) d_Fi_save_63 (by decide) rfl (by rw [show nI 27 + Int32.ofInt (-8) = nI 19 by decide]; rfl) k) ?_
  refine ST.lift (fun _ _ k => T_goto (tgt := 45) d_Fi_save_66 rfl k) ?_
  refine ST.lift (fun _ _ k => T_iload d_Fi_save_45 rfl k) ?_
  refine ST.lift (fun _ _ k => T_bipush (v := nI 8) d_Fi_save_47 (by decide) k) ?_
  refine S_icmp_ltN d_Fi_save_49 rfl (by omega) (by omega) (fun c => by first | exact absurd c (by omega) | exact c.elim | exact absurd c (by decide) | exact absurd (by assumption) c | exact absurd c (by assumption)) (fun _ => ?_)
  refine ST.lift (fun _ _ k => T_aload_n (v := .ref b) d_Fi_save_52 rfl (Or.inr ⟨_, rfl⟩) k) ?_
  refine ST.lift (fun _ _ k => T_lload_n d_Fi_save_53 rfl k) ?_
  refine ST.lift (fun _ _ k => T_l2i d_Fi_save_54 k) (S_anyi fun z122 => ?_)
  refine S_virtual (as := [.int z122]) (rest := []) (b := b) d_Fi_save_55 rfl (jw_By_putByte.jo (by decide)) lm_Fi_47 ji_By_putByte js_By_putByte (y_b.1 _) rfl rfl rfl (Nat.le_of_ble_eq_true rfl) (by decide) (by decide) (c_By_putByte_ex G u118 b bd bc bj y_b z122 ((((((((((((((((((((k + 1) + 1) + 1) + 1) + 1) + 1) + 1) + 1) + 1) + 1) + 1) + 1) + 1) + 1) + 1) + 1) + 1) + 1) + 1) + 1) e_u118 (by omega) hv119) (fun r v' hq => ?_)
  rw [hq.1, hq.2]
  clear hq r v'
  show ST G mi_Fi_save 58 [(5, .int (nI 19)), (3, .long z121), (6, .int (nI 6)), (0, .ref 78), (1, .ref f), (2, .ref b)] [] (va_up u118 bj (nI (((((((((((((((((((((k + 1) + 1) + 1) + 1) + 1) + 1) + 1) + 1) + 1) + 1) + 1) + 1) + 1) + 1) + 1) + 1) + 1) + 1) + 1) + 1) + 1))) 0 0 _
  have hv124 := hv119.up (j := bj) (c := bc) (k := (((((((((((((((((((((k + 1) + 1) + 1) + 1) + 1) + 1) + 1) + 1) + 1) + 1) + 1) + 1) + 1) + 1) + 1) + 1) + 1) + 1) + 1) + 1) + 1)) y_b.2.2.2.2.1 (by omega)
  have hm125 := hm120.go (mdf.up (v := u118) (j := bj) (x := (nI (((((((((((((((((((((k + 1) + 1) + 1) + 1) + 1) + 1) + 1) + 1) + 1) + 1) + 1) + 1) + 1) + 1) + 1) + 1) + 1) + 1) + 1) + 1) + 1)))) (by intro i hi; simp only [List.mem_cons, List.not_mem_nil, or_false] at hi ⊢ <;> omega)
  have e_u123 : (va_up u118 bj (nI (((((((((((((((((((((k + 1) + 1) + 1) + 1) + 1) + 1) + 1) + 1) + 1) + 1) + 1) + 1) + 1) + 1) + 1) + 1) + 1) + 1) + 1) + 1) + 1))) bj = (nI (((((((((((((((((((((k + 1) + 1) + 1) + 1) + 1) + 1) + 1) + 1) + 1) + 1) + 1) + 1) + 1) + 1) + 1) + 1) + 1) + 1) + 1) + 1) + 1)) := by simp [va_up]
  generalize va_up u118 bj (nI (((((((((((((((((((((k + 1) + 1) + 1) + 1) + 1) + 1) + 1) + 1) + 1) + 1) + 1) + 1) + 1) + 1) + 1) + 1) + 1) + 1) + 1) + 1) + 1)) = u123 at hv124 hm125 e_u123 ⊢
  refine ST.lift (fun _ _ k => T_lload_n d_Fi_save_58 rfl k) ?_
  refine ST.lift (fun _ _ k => T_bipush (v := nI 8) d_Fi_save_59 (by decide) k) ?_
  refine ST.lift (fun _ _ k => T_lshr d_Fi_save_61 k) (S_anyl fun z126 => ?_)
  refine ST.lift (fun _ _ k => T_lstore_n (L' := [(3, .long z126), (5, .int (nI 19)), (6, .int (nI 6)), (0, .ref 78), (1, .ref f), (2, .ref b)]) d_Fi_save_62 (by decide) rfl k) ?_
  refine ST.lift (fun _ _ k => T_iinc (x := nI 19) (L' := [(5, .int (nI 11)), (3, .long z126), (6, .int (nI 6)), (0, .ref 78), (1, .ref f), (2, .ref b)]) d_Fi_save_63 (by decide) rfl (by rw [show nI 19 + Int32.ofInt (-8) = nI 11 by decide]; rfl) k) ?_
  refine ST.lift (fun _ _ k => T_goto (tgt := 45) d_Fi_save_66 rfl k) ?_
  refine ST.lift (fun _ _ k => T_iload d_Fi_save_45 rfl k) ?_
  refine ST.lift (fun _ _ k => T_bipush (v := nI 8) d_Fi_save_47 (by decide) k) ?_
  refine S_icmp_ltN d_Fi_save_49 rfl (by omega) (by omega) (fun c => by first | exact absurd c (by omega) | exact c.elim | exact absurd c (by decide) | exact absurd (by assumption) c | exact absurd c (by assumption)) (fun _ => ?_)
  refine ST.lift (fun _ _ k => T_aload_n (v := .ref b) d_Fi_save_52 rfl (Or.inr ⟨_, rfl⟩) k) ?_
  refine ST.lift (fun _ _ k => T_lload_n d_Fi_save_53 rfl k) ?_
  refine ST.lift (fun _ _ k => T_l2i d_Fi_save_54 k) (S_anyi fun z127 => ?_)
  refine S_virtual (as := [.int z127]) (rest := []) (b := b) d_Fi_save_55 rfl (jw_By_putByte.jo (by decide)) lm_Fi_47 ji_By_putByte js_By_putByte (y_b.1 _) rfl rfl rfl (Nat.le_of_ble_eq_true rfl) (by decide) (by decide) (c_By_putByte_ex G u123 b bd bc bj y_b z127 (((((((((((((((((((((k + 1) + 1) + 1) + 1) + 1) + 1) + 1) + 1) + 1) + 1) + 1) + 1) + 1) + 1) + 1) + 1) + 1) + 1) + 1) + 1) + 1) e_u123 (by omega) hv124) (fun r v' hq => ?_)
  rw [hq.1, hq.2]
  clear hq r v'
  show ST G mi_Fi_save 58 [(5, .int (nI 11)), (3, .long z126), (6, .int (nI 6)), (0, .ref 78), (1, .ref f), (2, .ref b)] [] (va_up u123 bj (nI ((((((((((((((((((((((k + 1) + 1) + 1) + 1) + 1) + 1) + 1) + 1) + 1) + 1) + 1) + 1) + 1) + 1) + 1) + 1) + 1) + 1) + 1) + 1) + 1) + 1))) 0 0 _
  have hv129 := hv124.up (j := bj) (c := bc) (k := ((((((((((((((((((((((k + 1) + 1) + 1) + 1) + 1) + 1) + 1) + 1) + 1) + 1) + 1) + 1) + 1) + 1) + 1) + 1) + 1) + 1) + 1) + 1) + 1) + 1)) y_b.2.2.2.2.1 (by omega)
  have hm130 := hm125.go (mdf.up (v := u123) (j := bj) (x := (nI ((((((((((((((((((((((k + 1) + 1) + 1) + 1) + 1) + 1) + 1) + 1) + 1) + 1) + 1) + 1) + 1) + 1) + 1) + 1) + 1) + 1) + 1) + 1) + 1) + 1)))) (by intro i hi; simp only [List.mem_cons, List.not_mem_nil, or_false] at hi ⊢ <;> omega)
  have e_u128 : (va_up u123 bj (nI ((((((((((((((((((((((k + 1) + 1) + 1) + 1) + 1) + 1) + 1) + 1) + 1) + 1) + 1) + 1) + 1) + 1) + 1) + 1) + 1) + 1) + 1) + 1) + 1) + 1))) bj = (nI ((((((((((((((((((((((k + 1) + 1) + 1) + 1) + 1) + 1) + 1) + 1) + 1) + 1) + 1) + 1) + 1) + 1) + 1) + 1) + 1) + 1) + 1) + 1) + 1) + 1)) := by simp [va_up]
  generalize va_up u123 bj (nI ((((((((((((((((((((((k + 1) + 1) + 1) + 1) + 1) + 1) + 1) + 1) + 1) + 1) + 1) + 1) + 1) + 1) + 1) + 1) + 1) + 1) + 1) + 1) + 1) + 1)) = u128 at hv129 hm130 e_u128 ⊢
  refine ST.lift (fun _ _ k => T_lload_n d_Fi_save_58 rfl k) ?_
  refine ST.lift (fun _ _ k => T_bipush (v := nI 8) d_Fi_save_59 (by decide) k) ?_
  refine ST.lift (fun _ _ k => T_lshr d_Fi_save_61 k) (S_anyl fun z131 => ?_)
  refine ST.lift (fun _ _ k => T_lstore_n (L' := [(3, .long z131), (5, .int (nI 11)), (6, .int (nI 6)), (0, .ref 78), (1, .ref f), (2, .ref b)]) d_Fi_save_62 (by decide) rfl k) ?_
  refine ST.lift (fun _ _ k => T_iinc (x := nI 11) (L' := [(5, .int (nI 3)), (3, .long z131), (6, .int (nI 6)), (0, .ref 78), (1, .ref f), (2, .ref b)]) d_Fi_save_63 (by decide) rfl (by rw [show nI 11 + Int32.ofInt (-8) = nI 3 by decide]; rfl) k) ?_
  refine ST.lift (fun _ _ k => T_goto (tgt := 45) d_Fi_save_66 rfl k) ?_
  refine ST.lift (fun _ _ k => T_iload d_Fi_save_45 rfl k) ?_
  refine ST.lift (fun _ _ k => T_bipush (v := nI 8) d_Fi_save_47 (by decide) k) ?_
  refine S_icmp_ltN d_Fi_save_49 rfl (by omega) (by omega) (fun _ => ?_) (fun c => by first | exact absurd c (by omega) | exact c.elim | exact absurd c (by decide) | exact absurd (by assumption) c | exact absurd c (by assumption))
  refine S_iincN (a := 6) (b := 1) (L' := [(6, .int (nI 7)), (5, .int (nI 3)), (3, .long z131), (0, .ref 78), (1, .ref f), (2, .ref b)]) d_Fi_save_69 (by decide) rfl rfl rfl ?_
  refine ST.lift (fun _ _ k => T_goto (tgt := 13) d_Fi_save_72 rfl k) ?_
  refine ST.lift (fun _ _ k => T_iload d_Fi_save_13 rfl k) ?_
  refine ST.lift (fun _ _ k => T_bipush (v := nI 10) d_Fi_save_15 (by decide) k) ?_
  refine S_icmp_geN d_Fi_save_17 rfl (by omega) (by omega) (fun c => by first | exact absurd c (by omega) | exact c.elim | exact absurd c (by decide) | exact absurd (by assumption) c | exact absurd c (by assumption)) (fun _ => ?_)
  refine ST.lift (fun _ _ k => T_lload_n d_Fi_save_20 rfl k) ?_
  refine ST.lift (fun _ _ k => T_aload_n (v := .ref 78) d_Fi_save_21 rfl (Or.inr ⟨_, rfl⟩) k) ?_
  refine S_getfield d_Fi_save_22 fg_Fi_9 (w78 _) rfl ?_
  refine ST.lift (fun _ _ k => T_iload d_Fi_save_25 rfl k) ?_
  refine S_laload d_Fi_save_27 a79 (vp_in_nI (by omega) (by omega)) (fun z132 => ?_)
  refine ST.lift (fun _ _ k => T_iload d_Fi_save_28 rfl k) ?_
  refine ST.lift (fun _ _ k => T_lshl d_Fi_save_30 k) (S_anyl fun z133 => ?_)
  refine ST.lift (fun _ _ k => T_lor d_Fi_save_31 k) (S_anyl fun z134 => ?_)
  refine ST.lift (fun _ _ k => T_lstore_n (L' := [(3, .long z134), (6, .int (nI 7)), (5, .int (nI 3)), (0, .ref 78), (1, .ref f), (2, .ref b)]) d_Fi_save_32 (by decide) rfl k) ?_
  refine ST.lift (fun _ _ k => T_iload d_Fi_save_33 rfl k) ?_
  refine ST.lift (fun _ _ k => T_bipush (v := nI 26) d_Fi_save_35 (by decide) k) ?_
  refine ST.lift (fun _ _ k => T_iload d_Fi_save_37 rfl k) ?_
  refine ST.lift (fun _ _ k => T_iconst (v := nI 1) d_Fi_save_39 (by decide) k) ?_
  refine S_iandN 1 d_Fi_save_40 (by omega) (by decide) (by decide) ?_
  refine S_topi (y := nI 1) (by decide) ?_
  refine S_isubN d_Fi_save_41 (by omega) ?_
  refine S_topi (y := nI 25) (by decide) ?_
  refine S_iaddN d_Fi_save_42 ?_
  refine S_topi (y := nI 28) (by decide) ?_
  refine ST.lift (fun _ _ k => T_istore (L' := [(5, .int (nI 28)), (3, .long z134), (6, .int (nI 7)), (0, .ref 78), (1, .ref f), (2, .ref b)]) d_Fi_save_43 (by decide) rfl k) ?_
  refine ST.lift (fun _ _ k => T_iload d_Fi_save_45 rfl k) ?_
  refine ST.lift (fun _ _ k => T_bipush (v := nI 8) d_Fi_save_47 (by decide) k) ?_
  refine S_icmp_ltN d_Fi_save_49 rfl (by omega) (by omega) (fun c => by first | exact absurd c (by omega) | exact c.elim | exact absurd c (by decide) | exact absurd (by assumption) c | exact absurd c (by assumption)) (fun _ => ?_)
  refine ST.lift (fun _ _ k => T_aload_n (v := .ref b) d_Fi_save_52 rfl (Or.inr ⟨_, rfl⟩) k) ?_
  refine ST.lift (fun _ _ k => T_lload_n d_Fi_save_53 rfl k) ?_
  refine ST.lift (fun _ _ k => T_l2i d_Fi_save_54 k) (S_anyi fun z135 => ?_)
  refine S_virtual (as := [.int z135]) (rest := []) (b := b) d_Fi_save_55 rfl (jw_By_putByte.jo (by decide)) lm_Fi_47 ji_By_putByte js_By_putByte (y_b.1 _) rfl rfl rfl (Nat.le_of_ble_eq_true rfl) (by decide) (by decide) (c_By_putByte_ex G u128 b bd bc bj y_b z135 ((((((((((((((((((((((k + 1) + 1) + 1) + 1) + 1) + 1) + 1) + 1) + 1) + 1) + 1) + 1) + 1) + 1) + 1) + 1) + 1) + 1) + 1) + 1) + 1) + 1) e_u128 (by omega) hv129) (fun r v' hq => ?_)
  rw [hq.1, hq.2]
  clear hq r v'
  show ST G mi_Fi_save 58 [(5, .int (nI 28)), (3, .long z134), (6, .int (nI 7)), (0, .ref 78), (1, .ref f), (2, .ref b)] [] (va_up u128 bj (nI (((((((((((((((((((((((k + 1) + 1) + 1) + 1) + 1) + 1) + 1) + 1) + 1) + 1) + 1) + 1) + 1) + 1) + 1) + 1) + 1) + 1) + 1) + 1) + 1) + 1) + 1))) 0 0 _
  have hv137 := hv129.up (j := bj) (c := bc) (k := (((((((((((((((((((((((k + 1) + 1) + 1) + 1) + 1) + 1) + 1) + 1) + 1) + 1) + 1) + 1) + 1) + 1) + 1) + 1) + 1) + 1) + 1) + 1) + 1) + 1) + 1)) y_b.2.2.2.2.1 (by omega)
  have hm138 := hm130.go (mdf.up (v := u128) (j := bj) (x := (nI (((((((((((((((((((((((k + 1) + 1) + 1) + 1) + 1) + 1) + 1) + 1) + 1) + 1) + 1) + 1) + 1) + 1) + 1) + 1) + 1) + 1) + 1) + 1) + 1) + 1) + 1)))) (by intro i hi; simp only [List.mem_cons, List.not_mem_nil, or_false] at hi ⊢ <;> omega)
  have e_u136 : (va_up u128 bj (nI (((((((((((((((((((((((k + 1) + 1) + 1) + 1) + 1) + 1) + 1) + 1) + 1) + 1) + 1) + 1) + 1) + 1) + 1) + 1) + 1) + 1) + 1) + 1) + 1) + 1) + 1))) bj = (nI (((((((((((((((((((((((k + 1) + 1) + 1) + 1) + 1) + 1) + 1) + 1) + 1) + 1) + 1) + 1) + 1) + 1) + 1) + 1) + 1) + 1) + 1) + 1) + 1) + 1) + 1)) := by simp [va_up]
  generalize va_up u128 bj (nI (((((((((((((((((((((((k + 1) + 1) + 1) + 1) + 1) + 1) + 1) + 1) + 1) + 1) + 1) + 1) + 1) + 1) + 1) + 1) + 1) + 1) + 1) + 1) + 1) + 1) + 1)) = u136 at hv137 hm138 e_u136 ⊢
  refine ST.lift (fun _ _ k => T_lload_n d_Fi_save_58 rfl k) ?_
  refine ST.lift (fun _ _ k => T_bipush (v := nI 8) d_Fi_save_59 (by decide) k) ?_
  refine ST.lift (fun _ _ k => T_lshr d_Fi_save_61 k) (S_anyl fun z139 => ?_)
  refine ST.lift (fun _ _ k => T_lstore_n (L' := [(3, .long z139), (5, .int (nI 28)), (6, .int (nI 7)), (0, .ref 78), (1, .ref f), (2, .ref b)]) d_Fi_save_62 (by decide) rfl k) ?_
  refine ST.lift (fun _ _ k => T_iinc (x := nI 28) (L' := [(5, .int (nI 20)), (3, .long z139), (6, .int (nI 7)), (0, .ref 78), (1, .ref f), (2, .ref b)]) d_Fi_save_63 (by decide) rfl (by rw [show nI 28 + Int32.ofInt (-8) = nI 20 by decide]; rfl) k) ?_
  refine ST.lift (fun _ _ k => T_goto (tgt := 45) d_Fi_save_66 rfl k) ?_
  refine ST.lift (fun _ _ k => T_iload d_Fi_save_45 rfl k) ?_
  refine ST.lift (fun _ _ k => T_bipush (v := nI 8) d_Fi_save_47 (by decide) k) ?_
  refine S_icmp_ltN d_Fi_save_49 rfl (by omega) (by omega) (fun c => by first | exact absurd c (by omega) | exact c.elim | exact absurd c (by decide) | exact absurd (by assumption) c | exact absurd c (by assumption)) (fun _ => ?_)
  refine ST.lift (fun _ _ k => T_aload_n (v := .ref b) d_Fi_save_52 rfl (Or.inr ⟨_, rfl⟩) k) ?_
  refine ST.lift (fun _ _ k => T_lload_n d_Fi_save_53 rfl k) ?_
  refine ST.lift (fun _ _ k => T_l2i d_Fi_save_54 k) (S_anyi fun z140 => ?_)
  refine S_virtual (as := [.int z140]) (rest := []) (b := b) d_Fi_save_55 rfl (jw_By_putByte.jo (by decide)) lm_Fi_47 ji_By_putByte js_By_putByte (y_b.1 _) rfl rfl rfl (Nat.le_of_ble_eq_true rfl) (by decide) (by decide) (c_By_putByte_ex G u136 b bd bc bj y_b z140 (((((((((((((((((((((((k + 1) + 1) + 1) + 1) + 1) + 1) + 1) + 1) + 1) + 1) + 1) + 1) + 1) + 1) + 1) + 1) + 1) + 1) + 1) + 1) + 1) + 1) + 1) e_u136 (by omega) hv137) (fun r v' hq => ?_)
  rw [hq.1, hq.2]
  clear hq r v'
  show ST G mi_Fi_save 58 [(5, .int (nI 20)), (3, .long z139), (6, .int (nI 7)), (0, .ref 78), (1, .ref f), (2, .ref b)] [] (va_up u136 bj (nI ((((((((((((((((((((((((k + 1) + 1) + 1) + 1) + 1) + 1) + 1) + 1) + 1) + 1) + 1) + 1) + 1) + 1) + 1) + 1) + 1) + 1) + 1) + 1) + 1) + 1) + 1) + 1))) 0 0 _
  have hv142 := hv137.up (j := bj) (c := bc) (k := ((((((((((((((((((((((((k + 1) + 1) + 1) + 1) + 1) + 1) + 1) + 1) + 1) + 1) + 1) + 1) + 1) + 1) + 1) + 1) + 1) + 1) + 1) + 1) + 1) + 1) + 1) + 1)) y_b.2.2.2.2.1 (by omega)
  have hm143 := hm138.go (mdf.up (v := u136) (j := bj) (x := (nI ((((((((((((((((((((((((k + 1) + 1) + 1) + 1) + 1) + 1) + 1) + 1) + 1) + 1) + 1) + 1) + 1) + 1) + 1) + 1) + 1) + 1) + 1) + 1) + 1) + 1) + 1) + 1)))) (by intro i hi; simp only [List.mem_cons, List.not_mem_nil, or_false] at hi ⊢ <;> omega)
  have e_u141 : (va_up u136 bj (nI ((((((((((((((((((((((((k + 1) + 1) + 1) + 1) + 1) + 1) + 1) + 1) + 1) + 1) + 1) + 1) + 1) + 1) + 1) + 1) + 1) + 1) + 1) + 1) + 1) + 1) + 1) + 1))) bj = (nI ((((((((((((((((((((((((k + 1) + 1) + 1) + 1) + 1) + 1) + 1) + 1) + 1) + 1) + 1) + 1) + 1) + 1) + 1) + 1) + 1) + 1) + 1) + 1) + 1) + 1) + 1) + 1)) := by simp [va_up]
  generalize va_up u136 bj (nI ((((((((((((((((((((((((k + 1) + 1) + 1) + 1) + 1) + 1) + 1) + 1) + 1) + 1) + 1) + 1) + 1) + 1) + 1) + 1) + 1) + 1) + 1) + 1) + 1) + 1) + 1) + 1)) = u141 at hv142 hm143 e_u141 ⊢
  refine ST.lift (fun _ _ k => T_lload_n d_Fi_save_58 rfl k) ?_
  refine ST.lift (fun _ _ k => T_bipush (v := nI 8) d_Fi_save_59 (by decide) k) ?_
  refine ST.lift (fun _ _ k => T_lshr d_Fi_save_61 k) (S_anyl fun z144 => ?_)
  refine ST.lift (fun _ _ k => T_lstore_n (L' := [(3, .long z144), (5, .int (nI 20)), (6, .int (nI 7)), (0, .ref 78), (1, .ref f), (2, .ref b)]) d_Fi_save_62 (by decide) rfl k) ?_
  refine ST.lift (fun _ _ k => T_iinc (x := nI 20) (L' := [(5, .int (nI 12)), (3, .long z144), (6, .int (nI 7)), (0, .ref 78), (1, .ref f), (2, .ref b)]) d_Fi_save_63 (by decide) rfl (by rw [show nI 20 + Int32.ofInt (-8) = nI 12 by decide]; rfl) k) ?_
  refine ST.lift (fun _ _ k => T_goto (tgt := 45) d_Fi_save_66 rfl k) ?_
  refine ST.lift (fun _ _ k => T_iload d_Fi_save_45 rfl k) ?_
  refine ST.lift (fun _ _ k => T_bipush (v := nI 8) d_Fi_save_47 (by decide) k) ?_
  refine S_icmp_ltN d_Fi_save_49 rfl (by omega) (by omega) (fun c => by first | exact absurd c (by omega) | exact c.elim | exact absurd c (by decide) | exact absurd (by assumption) c | exact absurd c (by assumption)) (fun _ => ?_)
  refine ST.lift (fun _ _ k => T_aload_n (v := .ref b) d_Fi_save_52 rfl (Or.inr ⟨_, rfl⟩) k) ?_
  refine ST.lift (fun _ _ k => T_lload_n d_Fi_save_53 rfl k) ?_
  refine ST.lift (fun _ _ k => T_l2i d_Fi_save_54 k) (S_anyi fun z145 => ?_)
  refine S_virtual (as := [.int z145]) (rest := []) (b := b) d_Fi_save_55 rfl (jw_By_putByte.jo (by decide)) lm_Fi_47 ji_By_putByte js_By_putByte (y_b.1 _) rfl rfl rfl (Nat.le_of_ble_eq_true rfl) (by decide) (by decide) (c_By_putByte_ex G u141 b bd bc bj y_b z145 ((((((((((((((((((((((((k + 1) + 1) + 1) + 1) + 1) + 1) + 1) + 1) + 1) + 1) + 1) + 1) + 1) + 1) + 1) + 1) + 1) + 1) + 1) + 1) + 1) + 1) + 1) + 1) e_u141 (by omega) hv142) (fun r v' hq => ?_)
  rw [hq.1, hq.2]
  clear hq r v'
  show ST G mi_Fi_save 58 [(5, .int (nI 12)), (3, .long z144), (6, .int (nI 7)), (0, .ref 78), (1, .ref f), (2, .ref b)] [] (va_up u141 bj (nI (((((((((((((((((((((((((k + 1) + 1) + 1) + 1) + 1) + 1) + 1) + 1) + 1) + 1) + 1) + 1) + 1) + 1) + 1) + 1) + 1) + 1) + 1) + 1) + 1) + 1) + 1) + 1) + 1))) 0 0 _
  have hv147 := hv142.up (j := bj) (c := bc) (k := (((((((((((((((((((((((((k + 1) + 1) + 1) + 1) + 1) + 1) + 1) + 1) + 1) + 1) + 1) + 1) + 1) + 1) + 1) + 1) + 1) + 1) + 1) + 1) + 1) + 1) + 1) + 1) + 1)) y_b.2.2.2.2.1 (by omega)
  have hm148 := hm143.go (mdf.up (v := u141) (j := bj) (x := (nI (((((((((((((((((((((((((k + 1) + 1) + 1) + 1) + 1) + 1) + 1) + 1) + 1) + 1) + 1) + 1) + 1) + 1) + 1) + 1) + 1) + 1) + 1) + 1) + 1) + 1) + 1) + 1) + 1)))) (by intro i hi; simp only [List.mem_cons, List.not_mem_nil, or_false] at hi ⊢ <;> omega)
  have e_u146 : (va_up u141 bj (nI (((((((((((((((((((((((((k + 1) + 1) + 1) + 1) + 1) + 1) + 1) + 1) + 1) + 1) + 1) + 1) + 1) + 1) + 1) + 1) + 1) + 1) + 1) + 1) + 1) + 1) + 1) + 1) + 1))) bj = (nI (((((((((((((((((((((((((k + 1) + 1) + 1) + 1) + 1) + 1) + 1) + 1) + 1) + 1) + 1) + 1) + 1) + 1) + 1) + 1) + 1) + 1) + 1) + 1) + 1) + 1) + 1) + 1) + 1)) := by simp [va_up]
  generalize va_up u141 bj (nI (((((((((((((((((((((((((k + 1) + 1) + 1) + 1) + 1) + 1) + 1) + 1) + 1) + 1) + 1) + 1) + 1) + 1) + 1) + 1) + 1) + 1) + 1) + 1) + 1) + 1) + 1) + 1) + 1)) = u146 at hv147 hm148 e_u146 ⊢
  refine ST.lift (fun _ _ k => T_lload_n d_Fi_save_58 rfl k) ?_
  refine ST.lift (fun _ _ k => T_bipush (v := nI 8) d_Fi_save_59 (by decide) k) ?_
  refine ST.lift (fun _ _ k => T_lshr d_Fi_save_61 k) (S_anyl fun z149 => ?_)
  refine ST.lift (fun _ _ k => T_lstore_n (L' := [(3, .long z149), (5, .int (nI 12)), (6, .int (nI 7)), (0, .ref 78), (1, .ref f), (2, .ref b)]) d_Fi_save_62 (by decide) rfl k) ?_
  refine ST.lift (fun _ _ k => T_iinc (x := nI 12) (L' := [(5, .int (nI 4)), (3, .long z149), (6, .int (nI 7)), (0, .ref 78), (1, .ref f), (2, .ref b)]) d_Fi_save_63 (by decide) rfl (by rw [show nI 12 + Int32.ofInt (-8) = nI 4 by decide]; rfl) k) ?_
  refine ST.lift (fun _ _ k => T_goto (tgt := 45) d_Fi_save_66 rfl k) ?_
  refine ST.lift (fun _ _ k => T_iload d_Fi_save_45 rfl k) ?_
  refine ST.lift (fun _ _ k => T_bipush (v := nI 8) d_Fi_save_47 (by decide) k) ?_
  refine S_icmp_ltN d_Fi_save_49 rfl (by omega) (by omega) (fun _ => ?_) (fun c => by first | exact absurd c (by omega) | exact c.elim | exact absurd c (by decide) | exact absurd (by assumption) c | exact absurd c (by assumption))
  refine S_iincN (a := 7) (b := 1) (L' := [(6, .int (nI 8)), (5, .int (nI 4)), (3, .long z149), (0, .ref 78), (1, .ref f), (2, .ref b)]) d_Fi_save_69 (by decide) rfl rfl rfl ?_
  refine ST.lift (fun _ _ k => T_goto (tgt := 13) d_Fi_save_72 rfl k) ?_
  refine ST.lift (fun _ _ k => T_iload d_Fi_save_13 rfl k) ?_
  refine ST.lift (fun _ _ k => T_bipush (v := nI 10) d_Fi_save_15 (by decide) k) ?_
  refine S_icmp_geN d_Fi_save_17 rfl (by omega) (by omega) (fun c => by first | exact absurd c (by omega) | exact c.elim | exact absurd c (by decide) | exact absurd (by assumption) c | exact absurd c (by assumption)) (fun _ => ?_)
  refine ST.lift (fun _ _ k => T_lload_n d_Fi_save_20 rfl k) ?_
  refine ST.lift (fun _ _ k => T_aload_n (v := .ref 78) d_Fi_save_21 rfl (Or.inr ⟨_, rfl⟩) k) ?_
  refine S_getfield d_Fi_save_22 fg_Fi_9 (w78 _) rfl ?_
  refine ST.lift (fun _ _ k => T_iload d_Fi_save_25 rfl k) ?_
  refine S_laload d_Fi_save_27 a79 (vp_in_nI (by omega) (by omega)) (fun z150 => ?_)
  refine ST.lift (fun _ _ k => T_iload d_Fi_save_28 rfl k) ?_
  refine ST.lift (fun _ _ k => T_lshl d_Fi_save_30 k) (S_anyl fun z151 => ?_)
  refine ST.lift (fun _ _ k => T_lor d_Fi_save_31 k) (S_anyl fun z152 => ?_)
  refine ST.lift (fun _ _ k => T_lstore_n (L' := [(3, .long z152), (6, .int (nI 8)), (5, .int (nI 4)), (0, .ref 78), (1, .ref f), (2, .ref b)]) d_Fi_save_32 (by decide) rfl k) ?_
  refine ST.lift (fun _ _ k => T_iload d_Fi_save_33 rfl k) ?_
  refine ST.lift (fun _ _ k => T_bipush (v := nI 26) d_Fi_save_35 (by decide) k) ?_
  refine ST.lift (fun _ _ k => T_iload d_Fi_save_37 rfl k) ?_
  refine ST.lift (fun _ _ k => T_iconst (v := nI 1) d_Fi_save_39 (by decide) k) ?_
  refine S_iandN 1 d_Fi_save_40 (by omega) (by decide) (by decide) ?_
  refine S_topi (y := nI 0) (by decide) ?_
  refine S_isubN d_Fi_save_41 (by omega) ?_
  refine S_topi (y := nI 26) (by decide) ?_
  refine S_iaddN d_Fi_save_42 ?_
  refine S_topi (y := nI 30) (by decide) ?_
  refine ST.lift (fun _ _ k => T_istore (L' := [(5, .int (nI 30)), (3, .long z152), (6, .int (nI 8)), (0, .ref 78), (1, .ref f), (2, .ref b)]) d_Fi_save_43 (by decide) rfl k) ?_
  refine ST.lift (fun _ _ k => T_iload d_Fi_save_45 rfl k) ?_
  refine ST.lift (fun _ _ k => T_bipush (v := nI 8) d_Fi_save_47 (by decide) k) ?_
  refine S_icmp_ltN d_Fi_save_49 rfl (by omega) (by omega) (fun c => by first | exact absurd c (by omega) | exact c.elim | exact absurd c (by decide) | exact absurd (by assumption) c | exact absurd c (by assumption)) (fun _ => ?_)
  refine ST.lift (fun _ _ k => T_aload_n (v := .ref b) d_Fi_save_52 rfl (Or.inr ⟨_, rfl⟩) k) ?_
  refine ST.lift (fun _ _ k => T_lload_n d_Fi_save_53 rfl k) ?_
  refine ST.lift (fun _ _ k => T_l2i d_Fi_save_54 k) (S_anyi fun z153 => ?_)
  refine S_virtual (as := [.int z153]) (rest := []) (b := b) d_Fi_save_55 rfl (jw_By_putByte.jo (by decide)) lm_Fi_47 ji_By_putByte js_By_putByte (y_b.1 _) rfl rfl rfl (Nat.le_of_ble_eq_true rfl) (by decide) (by decide) (c_By_putByte_ex G u146 b bd bc bj y_b z153 (((((((((((((((((((((((((k + 1) + 1) + 1) + 1) + 1) + 1) + 1) + 1) + 1) + 1) + 1) + 1) + 1) + 1) + 1) + 1) + 1) + 1) + 1) + 1) + 1) + 1) + 1) + 1) + 1) e_u146 (by omega) hv147) (fun r v' hq => ?_)
  rw [hq.1, hq.2]
  clear hq r v'
  show ST G mi_Fi_save 58 [(5, .int (nI 30)), (3, .long z152), (6, .int (nI 8)), (0, .ref 78), (1, .ref f), (2, .ref b)] [] (va_up u146 bj (nI ((((((((((((((((((((((((((k + 1) + 1) + 1) + 1) + 1) + 1) + 1) + 1) + 1) + 1) + 1) + 1) + 1) + 1) + 1) + 1) + 1) + 1) + 1) + 1) + 1) + 1) + 1) + 1) + 1) + 1))) 0 0 _
  have hv155 := hv147.up (j := bj) (c := bc) (k := ((((((((((((((((((((((((((k + 1) + 1) + 1) + 1) + 1) + 1) + 1) + 1) + 1) + 1) + 1) + 1) + 1) + 1) + 1) + 1) + 1) + 1) + 1) + 1) + 1) + 1) + 1) + 1) + 1) + 1)) y_b.2.2.2.2.1 (by omega)
  have hm156 := hm148.go (mdf.up (v := u146) (j := bj) (x := (nI ((((((((((((((((((((((((((k + 1) + 1) + 1) + 1) + 1) + 1) + 1) + 1) + 1) + 1) + 1) + 1) + 1) + 1) + 1) + 1) + 1) + 1) + 1) + 1) + 1) + 1) + 1) + 1) + 1) + 1)))) (by intro i hi; simp only [List.mem_cons, List.not_mem_nil, or_false] at hi ⊢ <;> omega)
  have e_u154 : (va_up u146 bj (nI ((((((((((((((((((((((((((k + 1) + 1) + 1) + 1) + 1) + 1) + 1) + 1) + 1) + 1) + 1) + 1) + 1) + 1) + 1) + 1) + 1) + 1) + 1) + 1) + 1) + 1) + 1) + 1) + 1) + 1))) bj = (nI ((((((((((((((((((((((((((k + 1) + 1) + 1) + 1) + 1) + 1) + 1) + 1) + 1) + 1) + 1) + 1) + 1) + 1) + 1) + 1) + 1) + 1) + 1) + 1) + 1) + 1) + 1) + 1) + 1) + 1)) := by simp [va_up]
  generalize va_up u146 bj (nI ((((((((((((((((((((((((((k + 1) + 1) + 1) + 1) + 1) + 1) + 1) + 1) + 1) + 1) + 1) + 1) + 1) + 1) + 1) + 1) + 1) + 1) + 1) + 1) + 1) + 1) + 1) + 1) + 1) + 1)) = u154 at hv155 hm156 e_u154 ⊢
  refine ST.lift (fun _ _ k => T_lload_n d_Fi_save_58 rfl k) ?_
  refine ST.lift (fun _ _ k => T_bipush (v := nI 8) d_Fi_save_59 (by decide) k) ?_
  refine ST.lift (fun _ _ k => T_lshr d_Fi_save_61 k) (S_anyl fun z157 => ?_)
  refine ST.lift (fun _ _ k => T_lstore_n (L' := [(3, .long z157), (5, .int (nI 30)), (6, .int (nI 8)), (0, .ref 78), (1, .ref f), (2, .ref b)]) d_Fi_save_62 (by decide) rfl k) ?_
  refine ST.lift (fun _ _ k => T_iinc (x := nI 30) (L' := [(5, .int (nI 22)), (3, .long z157), (6, .int (nI 8)), (0, .ref 78), (1, .ref f), (2, .ref b)]) d_Fi_save_63 (by decide) rfl (by rw [show nI 30 + Int32.ofInt (-8) = nI 22 by decide]; rfl) k) ?_
  refine ST.lift (fun _ _ k => T_goto (tgt := 45) d_Fi_save_66 rfl k) ?_
  refine ST.lift (fun _ _ k => T_iload d_Fi_save_45 rfl k) ?_
  refine ST.lift (fun _ _ k => T_bipush (v := nI 8) d_Fi_save_47 (by decide) k) ?_
  refine S_icmp_ltN d_Fi_save_49 rfl (by omega) (by omega) (fun c => by first | exact absurd c (by omega) | exact c.elim | exact absurd c (by decide) | exact absurd (by assumption) c | exact absurd c (by assumption)) (fun _ => ?_)
  refine ST.lift (fun _ _ k => T_aload_n (v := .ref b) d_Fi_save_52 rfl (Or.inr ⟨_, rfl⟩) k) ?_
  refine ST.lift (fun _ _ k => T_lload_n d_Fi_save_53 rfl k) ?_
  refine ST.lift (fun _ _ k => T_l2i d_Fi_save_54 k) (S_anyi fun z158 => ?_)
  refine S_virtual (as := [.int z158]) (rest := []) (b := b) d_Fi_save_55 rfl (jw_By_putByte.jo (by decide)) lm_Fi_47 ji_By_putByte js_By_putByte (y_b.1 _) rfl rfl rfl (Nat.le_of_ble_eq_true rfl) (by decide) (by decide) (c_By_putByte_ex G u154 b bd bc bj y_b z158 ((((((((((((((((((((((((((k + 1) + 1) + 1) + 1) + 1) + 1) + 1) + 1) + 1) + 1) + 1) + 1) + 1) + 1) + 1) + 1) + 1) + 1) + 1) + 1) + 1) + 1) + 1) + 1) + 1) + 1) e_u154 (by omega) hv155) (fun r v' hq => ?_)
  rw [hq.1, hq.2]
  clear hq r v'
  show ST G mi_Fi_save 58 [(5, .int (nI 22)), (3, .long z157), (6, .int (nI 8)), (0, .ref 78), (1, .ref f), (2, .ref b)] [] (va_up u154 bj (nI (((((((((((((((((((((((((((k + 1) + 1) + 1) + 1) + 1) + 1) + 1) + 1) + 1) + 1) + 1) + 1) + 1) + 1) + 1) + 1) + 1) + 1) + 1) + 1) + 1) + 1) + 1) + 1) + 1) + 1) + 1))) 0 0 _
  have hv160 := hv155.up (j := bj) (c := bc) (k := (((((((((((((((((((((((((((k + 1) + 1) + 1) + 1) + 1) + 1) + 1) + 1) + 1) + 1) + 1) + 1) + 1) + 1) + 1) + 1) + 1) + 1) + 1) + 1) + 1) + 1) + 1) + 1) + 1) + 1) + 1)) y_b.2.2.2.2.1 (by omega)
  have hm161 := hm156.go (mdf.up (v := u154) (j := bj) (x := (nI (((((((((((((((((((((((((((k + 1) + 1) + 1) + 1) + 1) + 1) + 1) + 1) + 1) + 1) + 1) + 1) + 1) + 1) + 1) + 1) + 1) + 1) + 1) + 1) + 1) + 1) + 1) + 1) + 1) + 1) + 1)))) (by intro i hi; simp only [List.mem_cons, List.not_mem_nil, or_false] at hi ⊢ <;> omega)
  have e_u159 : (va_up u154 bj (nI (((((((((((((((((((((((((((k + 1) + 1) + 1) + 1) + 1) + 1) + 1) + 1) + 1) + 1) + 1) + 1) + 1) + 1) + 1) + 1) + 1) + 1) + 1) + 1) + 1) + 1) + 1) + 1) + 1) + 1) + 1))) bj = (nI (((((((((((((((((((((((((((k + 1) + 1) + 1) + 1) + 1) + 1) + 1) + 1) + 1) + 1) + 1) + 1) + 1) + 1) + 1) + 1) + 1) + 1) + 1) + 1) + 1) + 1) + 1) + 1) + 1) + 1) + 1)) := by simp [va_up]
  generalize va_up u154 bj (nI (((((((((((((((((((((((((((k + 1) + 1) + 1) + 1) + 1) + 1) + 1) + 1) + 1) + 1) + 1) + 1) + 1) + 1) + 1) + 1) + 1) + 1) + 1) + 1) + 1) + 1) + 1) + 1) + 1) + 1) + 1)) = u159 at hv160 hm161 e_u159 ⊢
  refine ST.lift (fun _ _ k => T_lload_n d_Fi_save_58 rfl k) ?_
  refine ST.lift (fun _ _ k => T_bipush (v := nI 8) d_Fi_save_59 (by decide) k) ?_
  refine ST.lift (fun _ _ k => T_lshr d_Fi_save_61 k) (S_anyl fun z162 => ?_)
  refine ST.lift (fun _ _ k => T_lstore_n (L' := [(3, .long z162), (5, .int (nI 22)), (6, .int (nI 8)), (0, .ref 78), (1, .ref f), (2, .ref b)]) d_Fi_save_62 (by decide) rfl k) ?_
  refine ST.lift (fun _ _ k => T_iinc (x := nI 22) (L' := [(5, .int (nI 14)), (3, .long z162), (6, .int (nI 8)), (0, .ref 78), (1, .ref f), (2, .ref b)]) d_Fi_save_63 (by decide) rfl (by rw [show nI 22 + Int32.ofInt (-8) = nI 14 by decide]; rfl) k) ?_
  refine ST.lift (fun _ _ k => T_goto (tgt := 45) d_Fi_save_66 rfl k) ?_
  refine ST.lift (fun _ _ k => T_iload d_Fi_save_45 rfl k) ?_
  refine ST.lift (fun _ _ k => T_bipush (v := nI 8) d_Fi_save_47 (by decide) k) ?_
  refine S_icmp_ltN d_Fi_save_49 rfl (by omega) (by omega) (fun c => by first | exact absurd c (by omega) | exact c.elim | exact absurd c (by decide) | exact absurd (by assumption) c | exact absurd c (by assumption)) (fun _ => ?_)
  refine ST.lift (fun _ _ k => T_aload_n (v := .ref b) d_Fi_save_52 rfl (Or.inr ⟨_, rfl⟩) k) ?_
  refine ST.lift (fun _ _ k => T_lload_n d_Fi_save_53 rfl k) ?_
  refine ST.lift (fun _ _ k => T_l2i d_Fi_save_54 k) (S_anyi fun z163 => ?_)
  refine S_virtual (as := [.int z163]) (rest := []) (b := b) d_Fi_save_55 rfl (jw_By_putByte.jo (by decide)) lm_Fi_47 ji_By_putByte js_By_putByte (y_b.1 _) rfl rfl rfl (Nat.le_of_ble_eq_true rfl) (by decide) (by decide) (c_By_putByte_ex G u159 b bd bc bj y_b z163 (((((((((((((((((((((((((((k + 1) + 1) + 1) + 1) + 1) + 1) + 1) + 1) + 1) + 1) + 1) + 1) + 1) + 1) + 1) + 1) + 1) + 1) + 1) + 1) + 1) + 1) + 1) + 1) + 1) + 1) + 1) e_u159 (by omega) hv160) (fun r v' hq => ?_)
  rw [hq.1, hq.2]
  clear hq r v'
  show ST G mi_Fi_save 58 [(5, .int (nI 14)), (3, .long z162), (6, .int (nI 8)), (0, .ref 78), (1, .ref f), (2, .ref b)] [] (va_up u159 bj (nI ((((((((((((((((((((((((((((k + 1) + 1) + 1) + 1) + 1) + 1) + 1) + 1) + 1) + 1) + 1) + 1) + 1) + 1) + 1) + 1) + 1) + 1) + 1) + 1) + 1) + 1) + 1) + 1) + 1) + 1) + 1) + 1))) 0 0 _
  have hv165 := hv160.up (j := bj) (c := bc) (k := ((((((((((((((((((((((((((((k + 1) + 1) + 1) + 1) + 1) + 1) + 1) + 1) + 1) + 1) + 1) + 1) + 1) + 1) + 1) + 1) + 1) + 1) + 1) + 1) + 1) + 1) + 1) + 1) + 1) + 1) + 1) + 1)) y_b.2.2.2.2.1 (by omega)
  have hm166 := hm161.go (mdf.up (v := u159) (j := bj) (x := (nI ((((((((((((((((((((((((((((k + 1) + 1) + 1) + 1) + 1) + 1) + 1) + 1) + 1) + 1) + 1) + 1) + 1) + 1) + 1) + 1) + 1) + 1) + 1) + 1) + 1) + 1) + 1) + 1) + 1) + 1) + 1) + 1)))) (by intro i hi; simp only [List.mem_cons, List.not_mem_nil, or_false] at hi ⊢ <;> omega)
  have e_u164 : (va_up u159 bj (nI ((((((((((((((((((((((((((((k + 1) + 1) + 1) + 1) + 1) + 1) + 1) + 1) + 1) + 1) + 1) + 1) + 1) + 1) + 1) + 1) + 1) + 1) + 1) + 1) + 1) + 1) + 1) + 1) + 1) + 1) + 1) + 1))) bj = (nI ((((((((((((((((((((((((((((k + 1) + 1) + 1) + 1) + 1) + 1) + 1) + 1) + 1) + 1) + 1) + 1) + 1) + 1) + 1) + 1) + 1) + 1) + 1) + 1) + 1) + 1) + 1) + 1) + 1) + 1) + 1) + 1)) := by simp [va_up]
  generalize va_up u159 bj (nI ((((((((((((((((((((((((((((k + 1) + 1) + 1) + 1) + 1) + 1) + 1) + 1) + 1) + 1) + 1) + 1) + 1) + 1) + 1) + 1) + 1) + 1) + 1) + 1) + 1) + 1) + 1) + 1) + 1) + 1) + 1) + 1)) = u164 at hv165 hm166 e_u164 ⊢
  refine ST.lift (fun _ _ k => T_lload_n d_Fi_save_58 rfl k) ?_
  refine ST.lift (fun _ _ k => T_bipush (v := nI 8) d_Fi_save_59 (by decide) k) ?_
  refine ST.lift (fun _ _ k => T_lshr d_Fi_save_61 k) (S_anyl fun z167 => ?_)
  refine ST.lift (fun _ _ k => T_lstore_n (L' := [(3, .long z167), (5, .int (nI 14)), (6, .int (nI 8)), (0, .ref 78), (1, .ref f), (2, .ref b)]) d_Fi_save_62 (by decide) rfl k) ?_
  refine ST.lift (fun _ _ k => T_iinc (x := nI 14) (L' := [(5, .int (nI 6)), (3, .long z167), (6, .int (nI 8)), (0, .ref 78), (1, .ref f), (2, .ref b)]) d_Fi_save_63 (by decide) rfl (by rw [show nI 14 + Int32.ofInt (-8) = nI 6 by decide]; rfl) k) ?_
  refine ST.lift (fun _ _ k => T_goto (tgt := 45) d_Fi_save_66 rfl k) ?_
  refine ST.lift (fun _ _ k => T_iload d_Fi_save_45 rfl k) ?_
  refine ST.lift (fun _ _ k => T_bipush (v := nI 8) d_Fi_save_47 (by decide) k) ?_
  refine S_icmp_ltN d_Fi_save_49 rfl (by omega) (by omega) (fun _ => ?_) (fun c => by first | exact absurd c (by omega) | exact c.elim | exact absurd c (by decide) | exact absurd (by assumption) c | exact absurd c (by assumption))
  refine S_iincN (a := 8) (b := 1) (L' := [(6, .int (nI 9)), (5, .int (nI 6)), (3, .long z167), (0, .ref 78), (1, .ref f), (2, .ref b)]) d_Fi_save_69 (by decide) rfl rfl rfl ?_
  refine ST.lift (fun _ _ k => T_goto (tgt := 13) d_Fi_save_72 rfl k) ?_
  refine ST.lift (fun _ _ k => T_iload d_Fi_save_13 rfl k) ?_
  refine ST.lift (fun _ _ k => T_bipush (v := nI 10) d_Fi_save_15 (by decide) k) ?_
  refine S_icmp_geN d_Fi_save_17 rfl (by omega) (by omega) (fun c => by first | exact absurd c (by omega) | exact c.elim | exact absurd c (by decide) | exact absurd (by assumption) c | exact absurd c (by assumption)) (fun _ => ?_)
  refine ST.lift (fun _ _ k => T_lload_n d_Fi_save_20 rfl k) ?_
  refine ST.lift (fun _ _ k => T_aload_n (v := .ref 78) d_Fi_save_21 rfl (Or.inr ⟨_, rfl⟩) k) ?_
  refine S_getfield d_Fi_save_22 fg_Fi_9 (w78 _) rfl ?_
  refine ST.lift (fun _ _ k => T_iload d_Fi_save_25 rfl k) ?_
  refine S_laload d_Fi_save_27 a79 (vp_in_nI (by omega) (by omega)) (fun z168 => ?_)
  refine ST.lift (fun _ _ k => T_iload d_Fi_save_28 rfl k) ?_
  refine ST.lift (fun _ _ k => T_lshl d_Fi_save_30 k) (S_anyl fun z169 => ?_)
  refine ST.lift (fun _ _ k => T_lor d_Fi_save_31 k) (S_anyl fun z170 => ?_)
  refine ST.lift (fun _ _ k => T_lstore_n (L' := [(3, .long z170), (6, .int (nI 9)), (5, .int (nI 6)), (0, .ref 78), (1, .ref f), (2, .ref b)]) d_Fi_save_32 (by decide) rfl k) ?_
  refine ST.lift (fun _ _ k => T_iload d_Fi_save_33 rfl k) ?_
  refine ST.lift (fun _ _ k => T_bipush (v := nI 26) d_Fi_save_35 (by decide) k) ?_
  refine ST.lift (fun _ _ k => T_iload d_Fi_save_37 rfl k) ?_
  refine ST.lift (fun _ _ k => T_iconst (v := nI 1) d_Fi_save_39 (by decide) k) ?_
  refine S_iandN 1 d_Fi_save_40 (by omega) (by decide) (by decide) ?_
  refine S_topi (y := nI 1) (by decide) ?_
  refine S_isubN d_Fi_save_41 (by omega) ?_
  refine S_topi (y := nI 25) (by decide) ?_
  refine S_iaddN d_Fi_save_42 ?_
  refine S_topi (y := nI 31) (by decide) ?_
  refine ST.lift (fun _ _ k => T_istore (L' := [(5, .int (nI 31)), (3, .long z170), (6, .int (nI 9)), (0, .ref 78), (1, .ref f), (2, .ref b)]) d_Fi_save_43 (by decide) rfl k) ?_
  refine ST.lift (fun _ _ k => T_iload d_Fi_save_45 rfl k) ?_
  refine ST.lift (fun _ _ k => T_bipush (v := nI 8) d_Fi_save_47 (by decide) k) ?_
  refine S_icmp_ltN d_Fi_save_49 rfl (by omega) (by omega) (fun c => by first | exact absurd c (by omega) | exact c.elim | exact absurd c (by decide) | exact absurd (by assumption) c | exact absurd c (by assumption)) (fun _ => ?_)
  refine ST.lift (fun _ _ k => T_aload_n (v := .ref b) d_Fi_save_52 rfl (Or.inr ⟨_, rfl⟩) k) ?_
  refine ST.lift (fun _ _ k => T_lload_n d_Fi_save_53 rfl k) ?_
  refine ST.lift (fun _ _ k => T_l2i d_Fi_save_54 k) (S_anyi fun z171 => ?_)
  refine S_virtual (as := [.int z171]) (rest := []) (b := b) d_Fi_save_55 rfl (jw_By_putByte.jo (by decide)) lm_Fi_47 ji_By_putByte js_By_putByte (y_b.1 _) rfl rfl rfl (Nat.le_of_ble_eq_true rfl) (by decide) (by decide) (c_By_putByte_ex G u164 b bd bc bj y_b z171 ((((((((((((((((((((((((((((k + 1) + 1) + 1) + 1) + 1) + 1) + 1) + 1) + 1) + 1) + 1) + 1) + 1) + 1) + 1) + 1) + 1) + 1) + 1) + 1) + 1) + 1) + 1) + 1) + 1) + 1) + 1) + 1) e_u164 (by omega) hv165) (fun r v' hq => ?_)
  rw [hq.1, hq.2]
  clear hq r v'
  show ST G mi_Fi_save 58 [(5, .int (nI 31)), (3, .long z170), (6, .int (nI 9)), (0, .ref 78), (1, .ref f), (2, .ref b)] [] (va_up u164 bj (nI (((((((((((((((((((((((((((((k + 1) + 1) + 1) + 1) + 1) + 1) + 1) + 1) + 1) + 1) + 1) + 1) + 1) + 1) + 1) + 1) + 1) + 1) + 1) + 1) + 1) + 1) + 1) + 1) + 1) + 1) + 1) + 1) + 1))) 0 0 _
  have hv173 := hv165.up (j := bj) (c := bc) (k := (((((((((((((((((((((((((((((k + 1) + 1) + 1) + 1) + 1) + 1) + 1) + 1) + 1) + 1) + 1) + 1) + 1) + 1) + 1) + 1) + 1) + 1) + 1) + 1) + 1) + 1) + 1) + 1) + 1) + 1) + 1) + 1) + 1)) y_b.2.2.2.2.1 (by omega)
  have hm174 := hm166.go (mdf.up (v := u164) (j := bj) (x := (nI (((((((((((((((((((((((((((((k + 1) + 1) + 1) + 1) + 1) + 1) + 1) + 1) + 1) + 1) + 1) + 1) + 1) + 1) + 1) + 1) + 1) + 1) + 1) + 1) + 1) + 1) + 1) + 1) + 1) + 1) + 1) + 1) + 1)))) (by intro i hi; simp only [List.mem_cons, List.not_mem_nil, or_false] at hi ⊢ <;> omega)
  have e_u172 : (va_up u164 bj (nI (((((((((((((((((((((((((((((k + 1) + 1) + 1) + 1) + 1) + 1) + 1) + 1) + 1) + 1) + 1) + 1) + 1) + 1) + 1) + 1) + 1) + 1) + 1) + 1) + 1) + 1) + 1) + 1) + 1) + 1) + 1) + 1) + 1))) bj = (nI (((((((((((((((((((((((((((((k + 1) + 1) + 1) + 1) + 1) + 1) + 1) + 1) + 1) + 1) + 1) + 1) + 1) + 1) + 1) + 1) + 1) + 1) + 1) + 1) + 1) + 1) + 1) + 1) + 1) + 1) + 1) + 1) + 1)) := by simp [va_up]
  generalize va_up u164 bj (nI (((((((((((((((((((((((((((((k + 1) + 1) + 1) + 1) + 1) + 1) + 1) + 1) + 1) + 1) + 1) + 1) + 1) + 1) + 1) + 1) + 1) + 1) + 1) + 1) + 1) + 1) + 1) + 1) + 1) + 1) + 1) + 1) + 1)) = u172 at hv173 hm174 e_u172 ⊢
  refine ST.lift (fun _ _ k => T_lload_n d_Fi_save_58 rfl k) ?_
  refine ST.lift (fun _ _ k => T_bipush (v := nI 8) d_Fi_save_59 (by decide) k) ?_
  refine ST.lift (fun _ _ k => T_lshr d_Fi_save_61 k) (S_anyl fun z175 => ?_)
  refine ST.lift (fun _ _ k => T_lstore_n (L' := [(3, .long z175), (5, .int (nI 31)), (6, .int (nI 9)), (0, .ref 78), (1, .ref f), (2, .ref b)]) d_Fi_save_62 (by decide) rfl k) ?_
  refine ST.lift (fun _ _ k => T_iinc (x := nI 31) (L' := [(5, .int (nI 23)), (3, .long z175), (6, .int (nI 9)), (0, .ref 78), (1, .ref f), (2, .ref b)]) d_Fi_save_63 (by decide) rfl (by rw [show nI 31 + Int32.ofInt (-8) = nI 23 by decide]; rfl) k) ?_
  refine ST.lift (fun _ _ k => T_goto (tgt := 45) d_Fi_save_66 rfl k) ?_
  refine ST.lift (fun _ _ k => T_iload d_Fi_save_45 rfl k) ?_
  refine ST.lift (fun _ _ k => T_bipush (v := nI 8) d_Fi_save_47 (by decide) k) ?_
  refine S_icmp_ltN d_Fi_save_49 rfl (by omega) (by omega) (fun c => by first | exact absurd c (by omega) | exact c.elim | exact absurd c (by decide) | exact absurd (by assumption) c | exact absurd c (by assumption)) (fun _ => ?_)
  refine ST.lift (fun _ _ k => T_aload_n (v := .ref b) d_Fi_save_52 rfl (Or.inr ⟨_, rfl⟩) k) ?_
  refine ST.lift (fun _ _ k => T_lload_n d_Fi_save_53 rfl k) ?_
  refine ST.lift (fun _ _ k => T_l2i d_Fi_save_54 k) (S_anyi fun z176 => ?_)
  refine S_virtual (as := [.int z176]) (rest := []) (b := b) d_Fi_save_55 rfl (jw_By_putByte.jo (by decide)) lm_Fi_47 ji_By_putByte js_By_putByte (y_b.1 _) rfl rfl rfl (Nat.le_of_ble_eq_true rfl) (by decide) (by decide) (c_By_putByte_ex G u172 b bd bc bj y_b z176 (((((((((((((((((((((((((((((k + 1) + 1) + 1) + 1) + 1) + 1) + 1) + 1) + 1) + 1) + 1) + 1) + 1) + 1) + 1) + 1) + 1) + 1) + 1) + 1) + 1) + 1) + 1) + 1) + 1) + 1) + 1) + 1) + 1) e_u172 (by omega) hv173) (fun r v' hq => ?_)
  rw [hq.1, hq.2]
  clear hq r v'
  show ST G mi_Fi_save 58 [(5, .int (nI 23)), (3, .long z175), (6, .int (nI 9)), (0, .ref 78), (1, .ref f), (2, .ref b)] [] (va_up u172 bj (nI ((((((((((((((((((((((((((((((k + 1) + 1) + 1) + 1) + 1) + 1) + 1) + 1) + 1) + 1) + 1) + 1) + 1) + 1) + 1) + 1) + 1) + 1) + 1) + 1) + 1) + 1) + 1) + 1) + 1) + 1) + 1) + 1) + 1) + 1))) 0 0 _
  have hv178 := hv173.up (j := bj) (c := bc) (k := ((((((((((((((((((((((((((((((k + 1) + 1) + 1) + 1) + 1) + 1) + 1) + 1) + 1) + 1) + 1) + 1) + 1) + 1) + 1) + 1) + 1) + 1) + 1) + 1) + 1) + 1) + 1) + 1) + 1) + 1) + 1) + 1) + 1) + 1)) y_b.2.2.2.2.1 (by omega)
  have hm179 := hm174.go (mdf.up (v := u172) (j := bj) (x := (nI ((((((((((((((((((((((((((((((k + 1) + 1) + 1) + 1) + 1) + 1) + 1) + 1) + 1) + 1) + 1) + 1) + 1) + 1) + 1) + 1) + 1) + 1) + 1) + 1) + 1) + 1) + 1) + 1) + 1) + 1) + 1) + 1) + 1) + 1)))) (by intro i hi; simp only [List.mem_cons, List.not_mem_nil, or_false] at hi ⊢ <;> omega)
  have e_u177 : (va_up u172 bj (nI ((((((((((((((((((((((((((((((k + 1) + 1) + 1) + 1) + 1) + 1) + 1) + 1) + 1) + 1) + 1) + 1) + 1) + 1) + 1) + 1) + 1) + 1) + 1) + 1) + 1) + 1) + 1) + 1) + 1) + 1) + 1) + 1) + 1) + 1))) bj = (nI ((((((((((((((((((((((((((((((k + 1) + 1) + 1) + 1) + 1) + 1) + 1) + 1) + 1) + 1) + 1) + 1) + 1) + 1) + 1) + 1) + 1) + 1) + 1) + 1) + 1) + 1) + 1) + 1) + 1) + 1) + 1) + 1) + 1) + 1)) := by simp [va_up]
  generalize va_up u172 bj (nI ((((((((((((((((((((((((((((((k + 1) + 1) + 1) + 1) + 1) + 1) + 1) + 1) + 1) + 1) + 1) + 1) + 1) + 1) + 1) + 1) + 1) + 1) + 1) + 1) + 1) + 1) + 1) + 1) + 1) + 1) + 1) + 1) + 1) + 1)) = u177 at hv178 hm179 e_u177 ⊢
  refine ST.lift (fun _ _ k => T_lload_n d_Fi_save_58 rfl k) ?_
  refine ST.lift (fun _ _ k => T_bipush (v := nI 8) d_Fi_save_59 (by decide) k) ?_
  refine ST.lift (fun _ _ k => T_lshr d_Fi_save_61 k) (S_anyl fun z180 => ?_)
  refine ST.lift (fun _ _ k => T_lstore_n (L' := [(3, .long z180), (5, .int (nI 23)), (6, .int (nI 9)), (0, .ref 78), (1, .ref f), (2, .ref b)]) d_Fi_save_62 (by decide) rfl k) ?_
  refine ST.lift (fun _ _ k => T_iinc (x := nI 23) (L' := [(5, .int (nI 15)), (3, .long z180), (6, .int (nI 9)), (0, .ref 78), (1, .ref f), (2, .ref b)]) d_Fi_save_63 (by decide) rfl (by rw [show nI 23 + Int32.ofInt (-8) = nI 15 by decide]; rfl) k) ?_
  refine ST.lift (fun _ _ k => T_goto (tgt := 45) d_Fi_save_66 rfl k) ?_
  refine ST.lift (fun _ _ k => T_iload d_Fi_save_45 rfl k) ?_
  refine ST.lift (fun _ _ k => T_bipush (v := nI 8) d_Fi_save_47 (by decide) k) ?_
  refine S_icmp_ltN d_Fi_save_49 rfl (by omega) (by omega) (fun c => by first | exact absurd c (by omega) | exact c.elim | exact absurd c (by decide) | exact absurd (by assumption) c | exact absurd c (by assumption)) (fun _ => ?_)
  refine ST.lift (fun _ _ k => T_aload_n (v := .ref b) d_Fi_save_52 rfl (Or.inr ⟨_, rfl⟩) k) ?_
  refine ST.lift (fun _ _ k => T_lload_n d_Fi_save_53 rfl k) ?_
  refine ST.lift (fun _ _ k => T_l2i d_Fi_save_54 k) (S_anyi fun z181 => ?_)
  refine S_virtual (as := [.int z181]) (rest := []) (b := b) d_Fi_save_55 rfl (jw_By_putByte.jo (by decide)) lm_Fi_47 ji_By_putByte js_By_putByte (y_b.1 _) rfl rfl rfl (Nat.le_of_ble_eq_true rfl) (by decide) (by decide) (c_By_putByte_ex G u177 b bd bc bj y_b z181 ((((((((((((((((((((((((((((((k + 1) + 1) + 1) + 1) + 1) + 1) + 1) + 1) + 1) + 1) + 1) + 1) + 1) + 1) + 1) + 1) + 1) + 1) + 1) + 1) + 1) + 1) + 1) + 1) + 1) + 1) + 1) + 1) + 1) + 1) e_u177 (by omega) hv178) (fun r v' hq => ?_)
  rw [hq.1, hq.2]
  clear hq r v'
  show ST G mi_Fi_save 58 [(5, .int (nI 15)), (3, .long z180), (6, .int (nI 9)), (0, .ref 78), (1, .ref f), (2, .ref b)] [] (va_up u177 bj (nI (((((((((((((((((((((((((((((((k + 1) + 1) + 1) + 1) + 1) + 1) + 1) + 1) + 1) + 1) + 1) + 1) + 1) + 1) + 1) + 1) + 1) + 1) + 1) + 1) + 1) + 1) + 1) + 1) + 1) + 1) + 1) + 1) + 1) + 1) + 1))) 0 0 _
  have hv183 := hv178.up (j := bj) (c := bc) (k := (((((((((((((((((((((((((((((((k + 1) + 1) + 1) + 1) + 1) + 1) + 1) + 1) + 1) + 1) + 1) + 1) + 1) + 1) + 1) + 1) + 1) + 1) + 1) + 1) + 1) + 1) + 1) + 1) + 1) + 1) + 1) + 1) + 1) + 1) + 1)) y_b.2.2.2.2.1 (by omega)
  have hm184 := hm179.go (mdf.up (v := u177) (j := bj) (x := (nI (((((((((((((((((((((((((((((((k + 1) + 1) + 1) + 1) + 1) + 1) + 1) + 1) + 1) + 1) + 1) + 1) + 1) + 1) + 1) + 1) + 1) + 1) + 1) + 1) + 1) + 1) + 1) + 1) + 1) + 1) + 1) + 1) + 1) + 1) + 1)))) (by intro i hi; simp only [List.mem_cons, List.not_mem_nil, or_false] at hi ⊢ <;> omega)
  have e_u182 : (va_up u177 bj (nI (((((((((((((((((((((((((((((((k + 1) + 1) + 1) + 1) + 1) + 1) + 1) + 1) + 1) + 1) + 1) + 1) + 1) + 1) + 1) + 1) + 1) + 1) + 1) + 1) + 1) + 1) + 1) + 1) + 1) + 1) + 1) + 1) + 1) + 1) + 1))) bj = (nI (((((((((((((((((((((((((((((((k + 1) + 1) + 1) + 1) + 1) + 1) + 1) + 1) + 1) + 1) + 1) + 1) + 1) + 1) + 1) + 1) + 1) + 1) + 1) + 1) + 1) + 1) + 1) + 1) + 1) + 1) + 1) + 1) + 1) + 1) + 1)) := by simp [va_up]
  generalize va_up u177 bj (nI (((((((((((((((((((((((((((((((k + 1) + 1) + 1) + 1) + 1) + 1) + 1) + 1) + 1) + 1) + 1) + 1) + 1) + 1) + 1) + 1) + 1) + 1) + 1) + 1) + 1) + 1) + 1) + 1) + 1) + 1) + 1) + 1) + 1) + 1) + 1)) = u182 at hv183 hm184 e_u182 ⊢
  refine ST.lift (fun _ _ k => T_lload_n d_Fi_save_58 rfl k) ?_
  refine ST.lift (fun _ _ k => T_bipush (v := nI 8) d_Fi_save_59 (by decide) k) ?_
  refine ST.lift (fun _ _ k => T_lshr d_Fi_save_61 k) (S_anyl fun z185 => ?_)
  refine ST.lift (fun _ _ k => T_lstore_n (L' := [(3, .long z185), (5, .int (nI 15)), (6, .int (nI 9)), (0, .ref 78), (1, .ref f), (2, .ref b)]) d_Fi_save_62 (by decide) rfl k) ?_
  refine ST.lift (fun _ _ k => T_iinc (x := nI 15) (L' := [(5, .int (nI 7)), (3, .long z185), (6, .int (nI 9)), (0, .ref 78), (1, .ref f), (2, .ref b)]) d_Fi_save_63 (by decide) rfl (by rw [show nI 15 + Int32.ofInt (-8) = nI 7 by decide]; rfl) k) ?_
  refine ST.lift (fun _ _ k => T_goto (tgt := 45) d_Fi_save_66 rfl k) ?_
  refine ST.lift (fun _ _ k => T_iload d_Fi_save_45 rfl k) ?_
  refine ST.lift (fun _ _ k => T_bipush (v := nI 8) d_Fi_save_47 (by decide) k) ?_
  refine S_icmp_ltN d_Fi_save_49 rfl (by omega) (by omega) (fun _ => ?_) (fun c => by first | exact absurd c (by omega) | exact c.elim | exact absurd c (by decide) | exact absurd (by assumption) c | exact absurd c (by assumption))
  refine S_iincN (a := 9) (b := 1) (L' := [(6, .int (nI 10)), (5, .int (nI 7)), (3, .long z185), (0, .ref 78), (1, .ref f), (2, .ref b)]) d_Fi_save_69 (by decide) rfl rfl rfl ?_
  refine ST.lift (fun _ _ k => T_goto (tgt := 13) d_Fi_save_72 rfl k) ?_
  refine ST.lift (fun _ _ k => T_iload d_Fi_save_13 rfl k) ?_
  refine ST.lift (fun _ _ k => T_bipush (v := nI 10) d_Fi_save_15 (by decide) k) ?_
  refine S_icmp_geN d_Fi_save_17 rfl (by omega) (by omega) (fun _ => ?_) (fun c => by first | exact absurd c (by omega) | exact c.elim | exact absurd c (by decide) | exact absurd (by assumption) c | exact absurd c (by assumption))
  refine ST.lift (fun _ _ k => T_aload_n (v := .ref b) d_Fi_save_75 rfl (Or.inr ⟨_, rfl⟩) k) ?_
  refine ST.lift (fun _ _ k => T_lload_n d_Fi_save_76 rfl k) ?_
  refine ST.lift (fun _ _ k => T_l2i d_Fi_save_77 k) (S_anyi fun z186 => ?_)
  refine S_virtual (as := [.int z186]) (rest := []) (b := b) d_Fi_save_78 rfl (jw_By_putByte.jo (by decide)) lm_Fi_47 ji_By_putByte js_By_putByte (y_b.1 _) rfl rfl rfl (Nat.le_of_ble_eq_true rfl) (by decide) (by decide) (c_By_putByte_ex G u182 b bd bc bj y_b z186 (((((((((((((((((((((((((((((((k + 1) + 1) + 1) + 1) + 1) + 1) + 1) + 1) + 1) + 1) + 1) + 1) + 1) + 1) + 1) + 1) + 1) + 1) + 1) + 1) + 1) + 1) + 1) + 1) + 1) + 1) + 1) + 1) + 1) + 1) + 1) e_u182 (by omega) hv183) (fun r v' hq => ?_)
  rw [hq.1, hq.2]
  clear hq r v'
  show ST G mi_Fi_save 81 [(6, .int (nI 10)), (5, .int (nI 7)), (3, .long z185), (0, .ref 78), (1, .ref f), (2, .ref b)] [] (va_up u182 bj (nI ((((((((((((((((((((((((((((((((k + 1) + 1) + 1) + 1) + 1) + 1) + 1) + 1) + 1) + 1) + 1) + 1) + 1) + 1) + 1) + 1) + 1) + 1) + 1) + 1) + 1) + 1) + 1) + 1) + 1) + 1) + 1) + 1) + 1) + 1) + 1) + 1))) 0 0 _
  have hv188 := hv183.up (j := bj) (c := bc) (k := ((((((((((((((((((((((((((((((((k + 1) + 1) + 1) + 1) + 1) + 1) + 1) + 1) + 1) + 1) + 1) + 1) + 1) + 1) + 1) + 1) + 1) + 1) + 1) + 1) + 1) + 1) + 1) + 1) + 1) + 1) + 1) + 1) + 1) + 1) + 1) + 1)) y_b.2.2.2.2.1 (by omega)
  have hm189 := hm184.go (mdf.up (v := u182) (j := bj) (x := (nI ((((((((((((((((((((((((((((((((k + 1) + 1) + 1) + 1) + 1) + 1) + 1) + 1) + 1) + 1) + 1) + 1) + 1) + 1) + 1) + 1) + 1) + 1) + 1) + 1) + 1) + 1) + 1) + 1) + 1) + 1) + 1) + 1) + 1) + 1) + 1) + 1)))) (by intro i hi; simp only [List.mem_cons, List.not_mem_nil, or_false] at hi ⊢ <;> omega)
  have e_u187 : (va_up u182 bj (nI ((((((((((((((((((((((((((((((((k + 1) + 1) + 1) + 1) + 1) + 1) + 1) + 1) + 1) + 1) + 1) + 1) + 1) + 1) + 1) + 1) + 1) + 1) + 1) + 1) + 1) + 1) + 1) + 1) + 1) + 1) + 1) + 1) + 1) + 1) + 1) + 1))) bj = (nI ((((((((((((((((((((((((((((((((k + 1) + 1) + 1) + 1) + 1) + 1) + 1) + 1) + 1) + 1) + 1) + 1) + 1) + 1) + 1) + 1) + 1) + 1) + 1) + 1) + 1) + 1) + 1) + 1) + 1) + 1) + 1) + 1) + 1) + 1) + 1) + 1)) := by simp [va_up]
  generalize va_up u182 bj (nI ((((((((((((((((((((((((((((((((k + 1) + 1) + 1) + 1) + 1) + 1) + 1) + 1) + 1) + 1) + 1) + 1) + 1) + 1) + 1) + 1) + 1) + 1) + 1) + 1) + 1) + 1) + 1) + 1) + 1) + 1) + 1) + 1) + 1) + 1) + 1) + 1)) = u187 at hv188 hm189 e_u187 ⊢
  exact S_vret d_Fi_save_81 rfl (by decide) (by decide) (hQ _ hv188 hm189 (e_u187.trans (congrArg nI (by omega))))
set_option maxRecDepth 100000 in
set_option maxHeartbeats 4000000 in
theorem c_Cu_code_x (G : GX) (v : Nat → Int32) (p px py pz pt : Nat) (p_p : isPt p px py pz pt) (b bd bc bj : Nat) (y_b : isBy b bd bc bj) (k : Nat) (ebj : v bj = nI k) (hk : k + 32 ≤ bc) (hv : okv v) : CS G mi_Cu_code [.ref 77, .ref p, .ref b] v (fun r v' => r = none ∧ okv v' ∧ mdf [bj] v v' ∧ v' bj = nI (k + 32)) := by
  refine CS.of (by decide) (Nat.le_of_ble_eq_true rfl) ?_
  generalize hQe : (fun (r : Option Value) (v' : Nat → Int32) => r = none ∧ okv v' ∧ mdf [bj] v v' ∧ v' bj = nI (k + 32)) = Q
  have hQ : ∀ u, okv u → mdf [bj] v u → u bj = nI (k + 32) → Q none u := by rw [← hQe]; exact fun u h1 h2 f0 => ⟨rfl, h1, h2, f0⟩
  clear hQe
  have hm : mdf [bj] v v := mdf.rf
  have l_b := y_b.2.2.2.2.2
  show ST G mi_Cu_code 0 [(0, .ref 77), (1, .ref p), (2, .ref b)] [] v 0 0 Q
  refine ST.lift (fun _ _ k => T_aload_n (v := .ref 77) d_Cu_code_0 rfl (Or.inr ⟨_, rfl⟩) k) ?_
  refine S_getfield d_Cu_code_1 fg_Cu_36 (w77 _) rfl ?_
  refine ST.lift (fun _ _ k => T_aload_n (v := .ref p) d_Cu_code_4 rfl (Or.inr ⟨_, rfl⟩) k) ?_
  refine S_getfield d_Cu_code_5 fg_Cu_86 (p_p.1 _) rfl ?_
  refine ST.lift (fun _ _ k => T_aload_n (v := .ref p) d_Cu_code_8 rfl (Or.inr ⟨_, rfl⟩) k) ?_
  refine S_getfield d_Cu_code_9 fg_Cu_64 (p_p.1 _) rfl ?_
  refine S_static (as := [.ref 94, .ref pz, .ref py]) (rest := []) d_Cu_code_12 rfl (jw_Fi_add.jo (by decide)) lm_Cu_77 jt_Fi_add rfl (Nat.le_of_ble_eq_true rfl) (by decide) (by decide) (c_Fi_add G v 94 (by decide) a94 pz p_p.2.2.2.1 py p_p.2.2.1) (fun r v' hq => ?_)
  rw [hq.1, hq.2]
  clear hq r v'
  show ST G mi_Cu_code 15 [(0, .ref 77), (1, .ref p), (2, .ref b)] [] v 0 0 _
  refine ST.lift (fun _ _ k => T_aload_n (v := .ref 77) d_Cu_code_15 rfl (Or.inr ⟨_, rfl⟩) k) ?_
  refine S_getfield d_Cu_code_16 fg_Cu_40 (w77 _) rfl ?_
  refine ST.lift (fun _ _ k => T_aload_n (v := .ref p) d_Cu_code_19 rfl (Or.inr ⟨_, rfl⟩) k) ?_
  refine S_getfield d_Cu_code_20 fg_Cu_86 (p_p.1 _) rfl ?_
  refine ST.lift (fun _ _ k => T_aload_n (v := .ref p) d_Cu_code_23 rfl (Or.inr ⟨_, rfl⟩) k) ?_
  refine S_getfield d_Cu_code_24 fg_Cu_64 (p_p.1 _) rfl ?_
  refine S_static (as := [.ref 95, .ref pz, .ref py]) (rest := []) d_Cu_code_27 rfl (jw_Fi_subtract.jo (by decide)) lm_Cu_70 jt_Fi_subtract rfl (Nat.le_of_ble_eq_true rfl) (by decide) (by decide) (c_Fi_subtract G v 95 (by decide) a95 pz p_p.2.2.2.1 py p_p.2.2.1) (fun r v' hq => ?_)
  rw [hq.1, hq.2]
  clear hq r v'
  show ST G mi_Cu_code 30 [(0, .ref 77), (1, .ref p), (2, .ref b)] [] v 0 0 _
  refine ST.lift (fun _ _ k => T_aload_n (v := .ref 77) d_Cu_code_30 rfl (Or.inr ⟨_, rfl⟩) k) ?_
  refine S_getfield d_Cu_code_31 fg_Cu_36 (w77 _) rfl ?_
  refine ST.lift (fun _ _ k => T_aload_n (v := .ref 77) d_Cu_code_34 rfl (Or.inr ⟨_, rfl⟩) k) ?_
  refine S_getfield d_Cu_code_35 fg_Cu_36 (w77 _) rfl ?_
  refine ST.lift (fun _ _ k => T_aload_n (v := .ref 77) d_Cu_code_38 rfl (Or.inr ⟨_, rfl⟩) k) ?_
  refine S_getfield d_Cu_code_39 fg_Cu_40 (w77 _) rfl ?_
  refine S_static (as := [.ref 94, .ref 94, .ref 95]) (rest := []) d_Cu_code_42 rfl (jw_Fi_multiply.jo (by decide)) lm_Cu_74 jt_Fi_multiply rfl (Nat.le_of_ble_eq_true rfl) (by decide) (by decide) (c_Fi_multiply G v 94 (by decide) a94 94 a94 95 a95) (fun r v' hq => ?_)
  rw [hq.1, hq.2]
  clear hq r v'
  show ST G mi_Cu_code 45 [(0, .ref 77), (1, .ref p), (2, .ref b)] [] v 0 0 _
  refine ST.lift (fun _ _ k => T_aload_n (v := .ref 77) d_Cu_code_45 rfl (Or.inr ⟨_, rfl⟩) k) ?_
  refine S_getfield d_Cu_code_46 fg_Cu_40 (w77 _) rfl ?_
  refine ST.lift (fun _ _ k => T_aload_n (v := .ref p) d_Cu_code_49 rfl (Or.inr ⟨_, rfl⟩) k) ?_
  refine S_getfield d_Cu_code_50 fg_Cu_67 (p_p.1 _) rfl ?_
  refine ST.lift (fun _ _ k => T_aload_n (v := .ref p) d_Cu_code_53 rfl (Or.inr ⟨_, rfl⟩) k) ?_
  refine S_getfield d_Cu_code_54 fg_Cu_64 (p_p.1 _) rfl ?_
  refine S_static (as := [.ref 95, .ref px, .ref py]) (rest := []) d_Cu_code_57 rfl (jw_Fi_multiply.jo (by decide)) lm_Cu_74 jt_Fi_multiply rfl (Nat.le_of_ble_eq_true rfl) (by decide) (by decide) (c_Fi_multiply G v 95 (by decide) a95 px p_p.2.1 py p_p.2.2.1) (fun r v' hq => ?_)
  rw [hq.1, hq.2]
  clear hq r v'
  show ST G mi_Cu_code 60 [(0, .ref 77), (1, .ref p), (2, .ref b)] [] v 0 0 _
  refine ST.lift (fun _ _ k => T_aload_n (v := .ref 77) d_Cu_code_60 rfl (Or.inr ⟨_, rfl⟩) k) ?_
  refine S_getfield d_Cu_code_61 fg_Cu_43 (w77 _) rfl ?_
  refine ST.lift (fun _ _ k => T_aload_n (v := .ref 77) d_Cu_code_64 rfl (Or.inr ⟨_, rfl⟩) k) ?_
  refine S_getfield d_Cu_code_65 fg_Cu_40 (w77 _) rfl ?_
  refine ST.lift (fun _ _ k => T_iconst (v := nI 1) d_Cu_code_68 (by decide) k) ?_
  refine S_static (as := [.ref 96, .ref 95, .int (nI 1)]) (rest := []) d_Cu_code_69 rfl (jw_Fi_square.jo (by decide)) lm_Cu_89 jt_Fi_square rfl (Nat.le_of_ble_eq_true rfl) (by decide) (by decide) (c_Fi_square G v 96 (by decide) a96 95 a95 1 (by omega)) (fun r v' hq => ?_)
  rw [hq.1, hq.2]
  clear hq r v'
  show ST G mi_Cu_code 72 [(0, .ref 77), (1, .ref p), (2, .ref b)] [] v 0 0 _
  refine ST.lift (fun _ _ k => T_aload_n (v := .ref 77) d_Cu_code_72 rfl (Or.inr ⟨_, rfl⟩) k) ?_
  refine S_getfield d_Cu_code_73 fg_Cu_43 (w77 _) rfl ?_
  refine ST.lift (fun _ _ k => T_aload_n (v := .ref 77) d_Cu_code_76 rfl (Or.inr ⟨_, rfl⟩) k) ?_
  refine S_getfield d_Cu_code_77 fg_Cu_43 (w77 _) rfl ?_
  refine ST.lift (fun _ _ k => T_aload_n (v := .ref 77) d_Cu_code_80 rfl (Or.inr ⟨_, rfl⟩) k) ?_
  refine S_getfield d_Cu_code_81 fg_Cu_36 (w77 _) rfl ?_
  refine S_static (as := [.ref 96, .ref 96, .ref 94]) (rest := []) d_Cu_code_84 rfl (jw_Fi_multiply.jo (by decide)) lm_Cu_74 jt_Fi_multiply rfl (Nat.le_of_ble_eq_true rfl) (by decide) (by decide) (c_Fi_multiply G v 96 (by decide) a96 96 a96 94 a94) (fun r v' hq => ?_)
  rw [hq.1, hq.2]
  clear hq r v'
  show ST G mi_Cu_code 87 [(0, .ref 77), (1, .ref p), (2, .ref b)] [] v 0 0 _
  refine ST.lift (fun _ _ k => T_aload_n (v := .ref 77) d_Cu_code_87 rfl (Or.inr ⟨_, rfl⟩) k) ?_
  refine S_getfield d_Cu_code_88 fg_Cu_10 (w77 _) rfl ?_
  refine ST.lift (fun _ _ k => T_aload_n (v := .ref 77) d_Cu_code_91 rfl (Or.inr ⟨_, rfl⟩) k) ?_
  refine S_getfield d_Cu_code_92 fg_Cu_58 (w77 _) rfl ?_
  refine ST.lift (fun _ _ k => T_getstatic (q := ("PasswordGate$Field", "ONE", "[J", .ref 3)) d_Cu_code_95 (List.mem_of_getElem? (i := 3) rfl) gs_Cu_103 (show 3 < K0 by decide) k) ?_
  refine ST.lift (fun _ _ k => T_aload_n (v := .ref 77) d_Cu_code_98 rfl (Or.inr ⟨_, rfl⟩) k) ?_
  refine S_getfield d_Cu_code_99 fg_Cu_43 (w77 _) rfl ?_
  refine S_virtual (as := [.ref 101, .ref 3, .ref 96]) (rest := []) (b := 78) d_Cu_code_102 rfl (jw_Fi_root.jo (by decide)) lm_Cu_123 ji_Fi_root js_Fi_root (w78 _) rfl rfl rfl (Nat.le_of_ble_eq_true rfl) (by decide) (by decide) (c_Fi_root G v 101 (by decide) a101 3 a3 96 a96) (fun r v' hq => ?_)
  obtain ⟨z1, hz1, hr, hv⟩ := hq
  rw [hr, hv]
  clear hr hv r v'
  show ST G mi_Cu_code 105 [(0, .ref 77), (1, .ref p), (2, .ref b)] [.int (nI z1)] v 0 0 _
  refine ST.lift (fun _ _ k => T_pop d_Cu_code_105 rfl k) ?_
  refine ST.lift (fun _ _ k => T_aload_n (v := .ref 77) d_Cu_code_106 rfl (Or.inr ⟨_, rfl⟩) k) ?_
  refine S_getfield d_Cu_code_107 fg_Cu_36 (w77 _) rfl ?_
  refine ST.lift (fun _ _ k => T_aload_n (v := .ref 77) d_Cu_code_110 rfl (Or.inr ⟨_, rfl⟩) k) ?_
  refine S_getfield d_Cu_code_111 fg_Cu_36 (w77 _) rfl ?_
  refine ST.lift (fun _ _ k => T_aload_n (v := .ref 77) d_Cu_code_114 rfl (Or.inr ⟨_, rfl⟩) k) ?_
  refine S_getfield d_Cu_code_115 fg_Cu_58 (w77 _) rfl ?_
  refine S_static (as := [.ref 94, .ref 94, .ref 101]) (rest := []) d_Cu_code_118 rfl (jw_Fi_multiply.jo (by decide)) lm_Cu_74 jt_Fi_multiply rfl (Nat.le_of_ble_eq_true rfl) (by decide) (by decide) (c_Fi_multiply G v 94 (by decide) a94 94 a94 101 a101) (fun r v' hq => ?_)
  rw [hq.1, hq.2]
  clear hq r v'
  show ST G mi_Cu_code 121 [(0, .ref 77), (1, .ref p), (2, .ref b)] [] v 0 0 _
  refine ST.lift (fun _ _ k => T_aload_n (v := .ref 77) d_Cu_code_121 rfl (Or.inr ⟨_, rfl⟩) k) ?_
  refine S_getfield d_Cu_code_122 fg_Cu_40 (w77 _) rfl ?_
  refine ST.lift (fun _ _ k => T_aload_n (v := .ref 77) d_Cu_code_125 rfl (Or.inr ⟨_, rfl⟩) k) ?_
  refine S_getfield d_Cu_code_126 fg_Cu_40 (w77 _) rfl ?_
  refine ST.lift (fun _ _ k => T_aload_n (v := .ref 77) d_Cu_code_129 rfl (Or.inr ⟨_, rfl⟩) k) ?_
  refine S_getfield d_Cu_code_130 fg_Cu_58 (w77 _) rfl ?_
  refine S_static (as := [.ref 95, .ref 95, .ref 101]) (rest := []) d_Cu_code_133 rfl (jw_Fi_multiply.jo (by decide)) lm_Cu_74 jt_Fi_multiply rfl (Nat.le_of_ble_eq_true rfl) (by decide) (by decide) (c_Fi_multiply G v 95 (by decide) a95 95 a95 101 a101) (fun r v' hq => ?_)
  rw [hq.1, hq.2]
  clear hq r v'
  show ST G mi_Cu_code 136 [(0, .ref 77), (1, .ref p), (2, .ref b)] [] v 0 0 _
  refine ST.lift (fun _ _ k => T_aload_n (v := .ref 77) d_Cu_code_136 rfl (Or.inr ⟨_, rfl⟩) k) ?_
  refine S_getfield d_Cu_code_137 fg_Cu_61 (w77 _) rfl ?_
  refine ST.lift (fun _ _ k => T_aload_n (v := .ref 77) d_Cu_code_140 rfl (Or.inr ⟨_, rfl⟩) k) ?_
  refine S_getfield d_Cu_code_141 fg_Cu_36 (w77 _) rfl ?_
  refine ST.lift (fun _ _ k => T_aload_n (v := .ref 77) d_Cu_code_144 rfl (Or.inr ⟨_, rfl⟩) k) ?_
  refine S_getfield d_Cu_code_145 fg_Cu_40 (w77 _) rfl ?_
  refine S_static (as := [.ref 102, .ref 94, .ref 95]) (rest := []) d_Cu_code_148 rfl (jw_Fi_multiply.jo (by decide)) lm_Cu_74 jt_Fi_multiply rfl (Nat.le_of_ble_eq_true rfl) (by decide) (by decide) (c_Fi_multiply G v 102 (by decide) a102 94 a94 95 a95) (fun r v' hq => ?_)
  rw [hq.1, hq.2]
  clear hq r v'
  show ST G mi_Cu_code 151 [(0, .ref 77), (1, .ref p), (2, .ref b)] [] v 0 0 _
  refine ST.lift (fun _ _ k => T_aload_n (v := .ref 77) d_Cu_code_151 rfl (Or.inr ⟨_, rfl⟩) k) ?_
  refine S_getfield d_Cu_code_152 fg_Cu_61 (w77 _) rfl ?_
  refine ST.lift (fun _ _ k => T_aload_n (v := .ref 77) d_Cu_code_155 rfl (Or.inr ⟨_, rfl⟩) k) ?_
  refine S_getfield d_Cu_code_156 fg_Cu_61 (w77 _) rfl ?_
  refine ST.lift (fun _ _ k => T_aload_n (v := .ref p) d_Cu_code_159 rfl (Or.inr ⟨_, rfl⟩) k) ?_
  refine S_getfield d_Cu_code_160 fg_Cu_80 (p_p.1 _) rfl ?_
  refine S_static (as := [.ref 102, .ref 102, .ref pt]) (rest := []) d_Cu_code_163 rfl (jw_Fi_multiply.jo (by decide)) lm_Cu_74 jt_Fi_multiply rfl (Nat.le_of_ble_eq_true rfl) (by decide) (by decide) (c_Fi_multiply G v 102 (by decide) a102 102 a102 pt p_p.2.2.2.2.1) (fun r v' hq => ?_)
  rw [hq.1, hq.2]
  clear hq r v'
  show ST G mi_Cu_code 166 [(0, .ref 77), (1, .ref p), (2, .ref b)] [] v 0 0 _
  refine ST.lift (fun _ _ k => T_aload_n (v := .ref 77) d_Cu_code_166 rfl (Or.inr ⟨_, rfl⟩) k) ?_
  refine S_getfield d_Cu_code_167 fg_Cu_43 (w77 _) rfl ?_
  refine ST.lift (fun _ _ k => T_aload_n (v := .ref 77) d_Cu_code_170 rfl (Or.inr ⟨_, rfl⟩) k) ?_
  refine S_getfield d_Cu_code_171 fg_Cu_61 (w77 _) rfl ?_
  refine ST.lift (fun _ _ k => T_aload_n (v := .ref p) d_Cu_code_174 rfl (Or.inr ⟨_, rfl⟩) k) ?_
  refine S_getfield d_Cu_code_175 fg_Cu_80 (p_p.1 _) rfl ?_
  refine S_static (as := [.ref 96, .ref 102, .ref pt]) (rest := []) d_Cu_code_178 rfl (jw_Fi_multiply.jo (by decide)) lm_Cu_74 jt_Fi_multiply rfl (Nat.le_of_ble_eq_true rfl) (by decide) (by decide) (c_Fi_multiply G v 96 (by decide) a96 102 a102 pt p_p.2.2.2.2.1) (fun r v' hq => ?_)
  rw [hq.1, hq.2]
  clear hq r v'
  show ST G mi_Cu_code 181 [(0, .ref 77), (1, .ref p), (2, .ref b)] [] v 0 0 _
  refine ST.lift (fun _ _ k => T_aload_n (v := .ref 77) d_Cu_code_181 rfl (Or.inr ⟨_, rfl⟩) k) ?_
  refine S_getfield d_Cu_code_182 fg_Cu_10 (w77 _) rfl ?_
  refine ST.lift (fun _ _ k => T_aload_n (v := .ref 77) d_Cu_code_185 rfl (Or.inr ⟨_, rfl⟩) k) ?_
  refine S_getfield d_Cu_code_186 fg_Cu_43 (w77 _) rfl ?_
  refine S_virtual (as := [.ref 96]) (rest := []) (b := 78) d_Cu_code_189 rfl (jw_Fi_isOdd.jo (by decide)) lm_Cu_127 ji_Fi_isOdd js_Fi_isOdd (w78 _) rfl rfl rfl (Nat.le_of_ble_eq_true rfl) (by decide) (by decide) (c_Fi_isOdd G v 96 a96) (fun r v' hq => ?_)
  obtain ⟨z2, hz2, hr, hv⟩ := hq
  rw [hr, hv]
  clear hr hv r v'
  show ST G mi_Cu_code 192 [(0, .ref 77), (1, .ref p), (2, .ref b)] [.int (nI z2)] v 0 0 _
  have J273_4 : ST G mi_Cu_code 273 [(0, .ref 77), (1, .ref p), (2, .ref b)] [] v 0 0 Q := by
    refine ST.lift (fun _ _ k => T_aload_n (v := .ref 77) d_Cu_code_273 rfl (Or.inr ⟨_, rfl⟩) k) ?_
    refine S_getfield d_Cu_code_274 fg_Cu_43 (w77 _) rfl ?_
    refine ST.lift (fun _ _ k => T_aload_n (v := .ref 77) d_Cu_code_277 rfl (Or.inr ⟨_, rfl⟩) k) ?_
    refine S_getfield d_Cu_code_278 fg_Cu_46 (w77 _) rfl ?_
    refine ST.lift (fun _ _ k => T_aload_n (v := .ref 77) d_Cu_code_281 rfl (Or.inr ⟨_, rfl⟩) k) ?_
    refine S_getfield d_Cu_code_282 fg_Cu_61 (w77 _) rfl ?_
    refine S_static (as := [.ref 96, .ref 97, .ref 102]) (rest := []) d_Cu_code_285 rfl (jw_Fi_multiply.jo (by decide)) lm_Cu_74 jt_Fi_multiply rfl (Nat.le_of_ble_eq_true rfl) (by decide) (by decide) (c_Fi_multiply G v 96 (by decide) a96 97 a97 102 a102) (fun r v' hq => ?_)
    rw [hq.1, hq.2]
    clear hq r v'
    show ST G mi_Cu_code 288 [(0, .ref 77), (1, .ref p), (2, .ref b)] [] v 0 0 _
    refine ST.lift (fun _ _ k => T_aload_n (v := .ref 77) d_Cu_code_288 rfl (Or.inr ⟨_, rfl⟩) k) ?_
    refine S_getfield d_Cu_code_289 fg_Cu_10 (w77 _) rfl ?_
    refine ST.lift (fun _ _ k => T_aload_n (v := .ref 77) d_Cu_code_292 rfl (Or.inr ⟨_, rfl⟩) k) ?_
    refine S_getfield d_Cu_code_293 fg_Cu_43 (w77 _) rfl ?_
    refine S_virtual (as := [.ref 96]) (rest := []) (b := 78) d_Cu_code_296 rfl (jw_Fi_isOdd.jo (by decide)) lm_Cu_127 ji_Fi_isOdd js_Fi_isOdd (w78 _) rfl rfl rfl (Nat.le_of_ble_eq_true rfl) (by decide) (by decide) (c_Fi_isOdd G v 96 a96) (fun r v' hq => ?_)
    obtain ⟨z5, hz5, hr, hv⟩ := hq
    rw [hr, hv]
    clear hr hv r v'
    show ST G mi_Cu_code 299 [(0, .ref 77), (1, .ref p), (2, .ref b)] [.int (nI z5)] v 0 0 _
    have J313_7 : ST G mi_Cu_code 313 [(0, .ref 77), (1, .ref p), (2, .ref b)] [] v 0 0 Q := by
      refine ST.lift (fun _ _ k => T_aload_n (v := .ref 77) d_Cu_code_313 rfl (Or.inr ⟨_, rfl⟩) k) ?_
      refine S_getfield d_Cu_code_314 fg_Cu_43 (w77 _) rfl ?_
      refine ST.lift (fun _ _ k => T_aload_n (v := .ref p) d_Cu_code_317 rfl (Or.inr ⟨_, rfl⟩) k) ?_
      refine S_getfield d_Cu_code_318 fg_Cu_86 (p_p.1 _) rfl ?_
      refine ST.lift (fun _ _ k => T_aload_n (v := .ref 77) d_Cu_code_321 rfl (Or.inr ⟨_, rfl⟩) k) ?_
      refine S_getfield d_Cu_code_322 fg_Cu_49 (w77 _) rfl ?_
      refine S_static (as := [.ref 96, .ref pz, .ref 98]) (rest := []) d_Cu_code_325 rfl (jw_Fi_subtract.jo (by decide)) lm_Cu_70 jt_Fi_subtract rfl (Nat.le_of_ble_eq_true rfl) (by decide) (by decide) (c_Fi_subtract G v 96 (by decide) a96 pz p_p.2.2.2.1 98 a98) (fun r v' hq => ?_)
      rw [hq.1, hq.2]
      clear hq r v'
      show ST G mi_Cu_code 328 [(0, .ref 77), (1, .ref p), (2, .ref b)] [] v 0 0 _
      refine ST.lift (fun _ _ k => T_aload_n (v := .ref 77) d_Cu_code_328 rfl (Or.inr ⟨_, rfl⟩) k) ?_
      refine S_getfield d_Cu_code_329 fg_Cu_43 (w77 _) rfl ?_
      refine ST.lift (fun _ _ k => T_aload_n (v := .ref 77) d_Cu_code_332 rfl (Or.inr ⟨_, rfl⟩) k) ?_
      refine S_getfield d_Cu_code_333 fg_Cu_43 (w77 _) rfl ?_
      refine ST.lift (fun _ _ k => T_aload_n (v := .ref 77) d_Cu_code_336 rfl (Or.inr ⟨_, rfl⟩) k) ?_
      refine S_getfield d_Cu_code_337 fg_Cu_52 (w77 _) rfl ?_
      refine S_static (as := [.ref 96, .ref 96, .ref 99]) (rest := []) d_Cu_code_340 rfl (jw_Fi_multiply.jo (by decide)) lm_Cu_74 jt_Fi_multiply rfl (Nat.le_of_ble_eq_true rfl) (by decide) (by decide) (c_Fi_multiply G v 96 (by decide) a96 96 a96 99 a99) (fun r v' hq => ?_)
      rw [hq.1, hq.2]
      clear hq r v'
      show ST G mi_Cu_code 343 [(0, .ref 77), (1, .ref p), (2, .ref b)] [] v 0 0 _
      refine ST.lift (fun _ _ k => T_aload_n (v := .ref 77) d_Cu_code_343 rfl (Or.inr ⟨_, rfl⟩) k) ?_
      refine S_getfield d_Cu_code_344 fg_Cu_10 (w77 _) rfl ?_
      refine ST.lift (fun _ _ k => T_aload_n (v := .ref 77) d_Cu_code_347 rfl (Or.inr ⟨_, rfl⟩) k) ?_
      refine S_getfield d_Cu_code_348 fg_Cu_43 (w77 _) rfl ?_
      refine S_virtual (as := [.ref 96]) (rest := []) (b := 78) d_Cu_code_351 rfl (jw_Fi_isOdd.jo (by decide)) lm_Cu_127 ji_Fi_isOdd js_Fi_isOdd (w78 _) rfl rfl rfl (Nat.le_of_ble_eq_true rfl) (by decide) (by decide) (c_Fi_isOdd G v 96 a96) (fun r v' hq => ?_)
      obtain ⟨z8, hz8, hr, hv⟩ := hq
      rw [hr, hv]
      clear hr hv r v'
      show ST G mi_Cu_code 354 [(0, .ref 77), (1, .ref p), (2, .ref b)] [.int (nI z8)] v 0 0 _
      have J368_10 : ST G mi_Cu_code 368 [(0, .ref 77), (1, .ref p), (2, .ref b)] [] v 0 0 Q := by
        refine ST.lift (fun _ _ k => T_aload_n (v := .ref 77) d_Cu_code_368 rfl (Or.inr ⟨_, rfl⟩) k) ?_
        refine S_getfield d_Cu_code_369 fg_Cu_10 (w77 _) rfl ?_
        refine ST.lift (fun _ _ k => T_aload_n (v := .ref 77) d_Cu_code_372 rfl (Or.inr ⟨_, rfl⟩) k) ?_
        refine S_getfield d_Cu_code_373 fg_Cu_43 (w77 _) rfl ?_
        refine ST.lift (fun _ _ k => T_aload_n (v := .ref b) d_Cu_code_376 rfl (Or.inr ⟨_, rfl⟩) k) ?_
        refine S_virtual (as := [.ref 96, .ref b]) (rest := []) (b := 78) d_Cu_code_377 rfl (jw_Fi_save.jo (by decide)) lm_Cu_142 ji_Fi_save js_Fi_save (w78 _) rfl rfl rfl (Nat.le_of_ble_eq_true rfl) (by decide) (by decide) (c_Fi_save_x G v 96 a96 b bd bc bj y_b k ebj (by omega) hv) (fun r u11 hq => ?_)
        obtain ⟨hr, hv12, hm13, fe0_u11⟩ := hq
        rw [hr]
        clear hr r
        have hm14 := hm.go hm13 (by intro i hi; simp only [List.mem_cons, List.not_mem_nil, or_false] at hi ⊢ <;> omega)
        show ST G mi_Cu_code 380 [(0, .ref 77), (1, .ref p), (2, .ref b)] [] u11 0 0 _
        exact S_vret d_Cu_code_380 rfl (by decide) (by decide) (hQ _ hv12 hm14 (fe0_u11.trans (congrArg nI (by omega))))
      refine S_if_eqN d_Cu_code_354 rfl (by omega) (fun c9 => ?_) (fun c9 => ?_)
      · exact J368_10 
      · refine ST.lift (fun _ _ k => T_aload_n (v := .ref 77) d_Cu_code_357 rfl (Or.inr ⟨_, rfl⟩) k) ?_
        refine S_getfield d_Cu_code_358 fg_Cu_43 (w77 _) rfl ?_
        refine ST.lift (fun _ _ k => T_aload_n (v := .ref 77) d_Cu_code_361 rfl (Or.inr ⟨_, rfl⟩) k) ?_
        refine S_getfield d_Cu_code_362 fg_Cu_43 (w77 _) rfl ?_
        refine S_static (as := [.ref 96, .ref 96]) (rest := []) d_Cu_code_365 rfl (jw_Fi_negate.jo (by decide)) lm_Cu_139 jt_Fi_negate rfl (Nat.le_of_ble_eq_true rfl) (by decide) (by decide) (c_Fi_negate G v 96 (by decide) a96 96 a96) (fun r v' hq => ?_)
        rw [hq.1, hq.2]
        clear hq r v'
        show ST G mi_Cu_code 368 [(0, .ref 77), (1, .ref p), (2, .ref b)] [] v 0 0 _
        exact J368_10 
    refine S_if_eqN d_Cu_code_299 rfl (by omega) (fun c6 => ?_) (fun c6 => ?_)
    · exact J313_7 
    · refine ST.lift (fun _ _ k => T_aload_n (v := .ref 77) d_Cu_code_302 rfl (Or.inr ⟨_, rfl⟩) k) ?_
      refine S_getfield d_Cu_code_303 fg_Cu_49 (w77 _) rfl ?_
      refine ST.lift (fun _ _ k => T_aload_n (v := .ref 77) d_Cu_code_306 rfl (Or.inr ⟨_, rfl⟩) k) ?_
      refine S_getfield d_Cu_code_307 fg_Cu_49 (w77 _) rfl ?_
      refine S_static (as := [.ref 98, .ref 98]) (rest := []) d_Cu_code_310 rfl (jw_Fi_negate.jo (by decide)) lm_Cu_139 jt_Fi_negate rfl (Nat.le_of_ble_eq_true rfl) (by decide) (by decide) (c_Fi_negate G v 98 (by decide) a98 98 a98) (fun r v' hq => ?_)
      rw [hq.1, hq.2]
      clear hq r v'
      show ST G mi_Cu_code 313 [(0, .ref 77), (1, .ref p), (2, .ref b)] [] v 0 0 _
      exact J313_7 
  refine S_if_eqN d_Cu_code_192 rfl (by omega) (fun c3 => ?_) (fun c3 => ?_)
  · refine ST.lift (fun _ _ k => T_aload_n (v := .ref 77) d_Cu_code_240 rfl (Or.inr ⟨_, rfl⟩) k) ?_
    refine S_getfield d_Cu_code_241 fg_Cu_46 (w77 _) rfl ?_
    refine ST.lift (fun _ _ k => T_aload_n (v := .ref p) d_Cu_code_244 rfl (Or.inr ⟨_, rfl⟩) k) ?_
    refine S_getfield d_Cu_code_245 fg_Cu_67 (p_p.1 _) rfl ?_
    refine S_static (as := [.ref 97, .ref px]) (rest := []) d_Cu_code_248 rfl (jw_Fi_copy.jo (by decide)) lm_Cu_137 jt_Fi_copy rfl (Nat.le_of_ble_eq_true rfl) (by decide) (by decide) (c_Fi_copy G v 97 (by decide) a97 px p_p.2.1) (fun r v' hq => ?_)
    rw [hq.1, hq.2]
    clear hq r v'
    show ST G mi_Cu_code 251 [(0, .ref 77), (1, .ref p), (2, .ref b)] [] v 0 0 _
    refine ST.lift (fun _ _ k => T_aload_n (v := .ref 77) d_Cu_code_251 rfl (Or.inr ⟨_, rfl⟩) k) ?_
    refine S_getfield d_Cu_code_252 fg_Cu_49 (w77 _) rfl ?_
    refine ST.lift (fun _ _ k => T_aload_n (v := .ref p) d_Cu_code_255 rfl (Or.inr ⟨_, rfl⟩) k) ?_
    refine S_getfield d_Cu_code_256 fg_Cu_64 (p_p.1 _) rfl ?_
    refine S_static (as := [.ref 98, .ref py]) (rest := []) d_Cu_code_259 rfl (jw_Fi_copy.jo (by decide)) lm_Cu_137 jt_Fi_copy rfl (Nat.le_of_ble_eq_true rfl) (by decide) (by decide) (c_Fi_copy G v 98 (by decide) a98 py p_p.2.2.1) (fun r v' hq => ?_)
    rw [hq.1, hq.2]
    clear hq r v'
    show ST G mi_Cu_code 262 [(0, .ref 77), (1, .ref p), (2, .ref b)] [] v 0 0 _
    refine ST.lift (fun _ _ k => T_aload_n (v := .ref 77) d_Cu_code_262 rfl (Or.inr ⟨_, rfl⟩) k) ?_
    refine S_getfield d_Cu_code_263 fg_Cu_52 (w77 _) rfl ?_
    refine ST.lift (fun _ _ k => T_aload_n (v := .ref 77) d_Cu_code_266 rfl (Or.inr ⟨_, rfl⟩) k) ?_
    refine S_getfield d_Cu_code_267 fg_Cu_40 (w77 _) rfl ?_
    refine S_static (as := [.ref 99, .ref 95]) (rest := []) d_Cu_code_270 rfl (jw_Fi_copy.jo (by decide)) lm_Cu_137 jt_Fi_copy rfl (Nat.le_of_ble_eq_true rfl) (by decide) (by decide) (c_Fi_copy G v 99 (by decide) a99 95 a95) (fun r v' hq => ?_)
    rw [hq.1, hq.2]
    clear hq r v'
    show ST G mi_Cu_code 273 [(0, .ref 77), (1, .ref p), (2, .ref b)] [] v 0 0 _
    exact J273_4 
  · refine ST.lift (fun _ _ k => T_aload_n (v := .ref 77) d_Cu_code_195 rfl (Or.inr ⟨_, rfl⟩) k) ?_
    refine S_getfield d_Cu_code_196 fg_Cu_46 (w77 _) rfl ?_
    refine ST.lift (fun _ _ k => T_aload_n (v := .ref p) d_Cu_code_199 rfl (Or.inr ⟨_, rfl⟩) k) ?_
    refine S_getfield d_Cu_code_200 fg_Cu_64 (p_p.1 _) rfl ?_
    refine ST.lift (fun _ _ k => T_getstatic (q := ("PasswordGate$Field", "I", "[J", .ref 2)) d_Cu_code_203 (List.mem_of_getElem? (i := 2) rfl) gs_Cu_131 (show 2 < K0 by decide) k) ?_
    refine S_static (as := [.ref 97, .ref py, .ref 2]) (rest := []) d_Cu_code_206 rfl (jw_Fi_multiply.jo (by decide)) lm_Cu_74 jt_Fi_multiply rfl (Nat.le_of_ble_eq_true rfl) (by decide) (by decide) (c_Fi_multiply G v 97 (by decide) a97 py p_p.2.2.1 2 a2) (fun r v' hq => ?_)
    rw [hq.1, hq.2]
    clear hq r v'
    show ST G mi_Cu_code 209 [(0, .ref 77), (1, .ref p), (2, .ref b)] [] v 0 0 _
    refine ST.lift (fun _ _ k => T_aload_n (v := .ref 77) d_Cu_code_209 rfl (Or.inr ⟨_, rfl⟩) k) ?_
    refine S_getfield d_Cu_code_210 fg_Cu_49 (w77 _) rfl ?_
    refine ST.lift (fun _ _ k => T_aload_n (v := .ref p) d_Cu_code_213 rfl (Or.inr ⟨_, rfl⟩) k) ?_
    refine S_getfield d_Cu_code_214 fg_Cu_67 (p_p.1 _) rfl ?_
    refine ST.lift (fun _ _ k => T_getstatic (q := ("PasswordGate$Field", "I", "[J", .ref 2)) d_Cu_code_217 (List.mem_of_getElem? (i := 2) rfl) gs_Cu_131 (show 2 < K0 by decide) k) ?_
    refine S_static (as := [.ref 98, .ref px, .ref 2]) (rest := []) d_Cu_code_220 rfl (jw_Fi_multiply.jo (by decide)) lm_Cu_74 jt_Fi_multiply rfl (Nat.le_of_ble_eq_true rfl) (by decide) (by decide) (c_Fi_multiply G v 98 (by decide) a98 px p_p.2.1 2 a2) (fun r v' hq => ?_)
    rw [hq.1, hq.2]
    clear hq r v'
    show ST G mi_Cu_code 223 [(0, .ref 77), (1, .ref p), (2, .ref b)] [] v 0 0 _
    refine ST.lift (fun _ _ k => T_aload_n (v := .ref 77) d_Cu_code_223 rfl (Or.inr ⟨_, rfl⟩) k) ?_
    refine S_getfield d_Cu_code_224 fg_Cu_52 (w77 _) rfl ?_
    refine ST.lift (fun _ _ k => T_aload_n (v := .ref 77) d_Cu_code_227 rfl (Or.inr ⟨_, rfl⟩) k) ?_
    refine S_getfield d_Cu_code_228 fg_Cu_36 (w77 _) rfl ?_
    refine ST.lift (fun _ _ k => T_getstatic (q := ("PasswordGate$Curve", "E", "[J", .ref 9)) d_Cu_code_231 (List.mem_of_getElem? (i := 9) rfl) gs_Cu_134 (show 9 < K0 by decide) k) ?_
    refine S_static (as := [.ref 99, .ref 94, .ref 9]) (rest := []) d_Cu_code_234 rfl (jw_Fi_multiply.jo (by decide)) lm_Cu_74 jt_Fi_multiply rfl (Nat.le_of_ble_eq_true rfl) (by decide) (by decide) (c_Fi_multiply G v 99 (by decide) a99 94 a94 9 a9) (fun r v' hq => ?_)
    rw [hq.1, hq.2]
    clear hq r v'
    show ST G mi_Cu_code 237 [(0, .ref 77), (1, .ref p), (2, .ref b)] [] v 0 0 _
    refine ST.lift (fun _ _ k => T_goto (tgt := 273) d_Cu_code_237 rfl k) ?_
    exact J273_4 

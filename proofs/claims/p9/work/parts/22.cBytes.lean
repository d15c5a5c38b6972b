set_option maxRecDepth 100000 in
set_option maxHeartbeats 4000000 in
theorem c_By_clear (G : GX) (v : Nat → Int32) (b bd bc bj : Nat) (y_b : isBy b bd bc bj) (hv : okv v) : CS G mi_By_clear [.ref b] v (fun r v' => r = none ∧ v' = va_up v bj (nI 0)) := by
  refine CS.of (by decide) (Nat.le_of_ble_eq_true rfl) ?_
  generalize hQe : (fun (r : Option Value) (v' : Nat → Int32) => r = none ∧ v' = va_up v bj (nI 0)) = Q
  have hQ : Q none (va_up v bj (nI 0)) := by rw [← hQe]; exact ⟨rfl, rfl⟩
  clear hQe
  have hm : mdf [bj] v v := mdf.rf
  have l_b := y_b.2.2.2.2.2
  show ST G mi_By_clear 0 [(0, .ref b)] [] v 0 0 Q
  refine ST.lift (fun _ _ k => T_aload_n (v := .ref b) d_By_clear_0 rfl (Or.inr ⟨_, rfl⟩) k) ?_
  refine ST.lift (fun _ _ k => T_iconst (v := nI 0) d_By_clear_1 (by decide) k) ?_
  refine S_putfield (v' := va_up v bj (nI 0)) d_By_clear_2 (fp_By_13 _) (y_b.1 _) (Nat.le_of_ble_eq_true rfl) ⟨rfl, rfl⟩ (y_b.2.2.2.1 _ _) ?_
  have hv2 := hv.up (j := bj) (c := bc) (k := 0) y_b.2.2.2.2.1 (by omega)
  have hm3 := hm.go (mdf.up (v := v) (j := bj) (x := (nI 0))) (by intro i hi; simp only [List.mem_cons, List.not_mem_nil, or_false] at hi ⊢ <;> omega)
  have e_u1 : (va_up v bj (nI 0)) bj = (nI 0) := by simp [va_up]
  generalize hup : va_up v bj (nI 0) = u1 at hv2 hm3 e_u1 ⊢
  first | exact S_vret d_By_clear_5 rfl (by decide) (by decide) (hup ▸ hQ) | (exfalso; omega)
set_option maxRecDepth 100000 in
set_option maxHeartbeats 4000000 in
theorem c_By_putByte (G : GX) (v : Nat → Int32) (b bd bc bj : Nat) (y_b : isBy b bd bc bj) (x : Int32) (hv : okv v) : CS G mi_By_putByte [.ref b, .int x] v (fun r v' => r = none ∧ okv v' ∧ mdf [bj] v v') := by
  refine CS.of (by decide) (Nat.le_of_ble_eq_true rfl) ?_
  generalize hQe : (fun (r : Option Value) (v' : Nat → Int32) => r = none ∧ okv v' ∧ mdf [bj] v v') = Q
  have hQ : ∀ u, okv u → mdf [bj] v u → Q none u := by rw [← hQe]; exact fun u h1 h2 => ⟨rfl, h1, h2⟩
  clear hQe
  have hm : mdf [bj] v v := mdf.rf
  have l_b := y_b.2.2.2.2.2
  show ST G mi_By_putByte 0 [(0, .ref b), (1, .int x)] [] v 0 0 Q
  refine ST.lift (fun _ _ k => T_aload_n (v := .ref b) d_By_putByte_0 rfl (Or.inr ⟨_, rfl⟩) k) ?_
  obtain ⟨k1, hk1, ek1⟩ := hv.get (j := bj) (c := bc) y_b.2.2.2.2.1
  refine S_getfield d_By_putByte_1 fg_By_13 (y_b.1 _) rfl ?_
  refine S_topi (y := nI k1) (ek1) ?_
  refine ST.lift (fun _ _ k => T_aload_n (v := .ref b) d_By_putByte_4 rfl (Or.inr ⟨_, rfl⟩) k) ?_
  refine S_getfield d_By_putByte_5 fg_By_7 (y_b.1 _) rfl ?_
  refine S_alenB d_By_putByte_8 y_b.2.1 ?_
  refine S_icmp_geN d_By_putByte_9 rfl (by omega) (by omega) (fun c2 => ?_) (fun c2 => ?_)
  · exact S_vret d_By_putByte_33 rfl (by decide) (by decide) (hQ _ hv hm)
  · refine ST.lift (fun _ _ k => T_aload_n (v := .ref b) d_By_putByte_12 rfl (Or.inr ⟨_, rfl⟩) k) ?_
    refine S_getfield d_By_putByte_13 fg_By_7 (y_b.1 _) rfl ?_
    refine ST.lift (fun _ _ k => T_aload_n (v := .ref b) d_By_putByte_16 rfl (Or.inr ⟨_, rfl⟩) k) ?_
    refine S_getfield d_By_putByte_17 fg_By_13 (y_b.1 _) rfl ?_
    refine S_topi (y := nI k1) (ek1) ?_
    refine ST.lift (fun _ _ k => T_iload_n d_By_putByte_20 rfl k) ?_
    refine ST.lift (fun _ _ k => T_i2b d_By_putByte_21 k) (S_anyi fun z3 => ?_)
    refine S_bastore d_By_putByte_22 y_b.2.2.1 y_b.2.1 (vp_in_nI (by omega) (by omega)) ?_
    refine ST.lift (fun _ _ k => T_aload_n (v := .ref b) d_By_putByte_23 rfl (Or.inr ⟨_, rfl⟩) k) ?_
    refine ST.lift (fun _ _ k => T_dup d_By_putByte_24 rfl k) ?_
    refine S_getfield d_By_putByte_25 fg_By_13 (y_b.1 _) rfl ?_
    refine S_topi (y := nI k1) (ek1) ?_
    refine ST.lift (fun _ _ k => T_iconst (v := nI 1) d_By_putByte_28 (by decide) k) ?_
    refine S_iaddN d_By_putByte_29 ?_
    refine S_putfield (v' := va_up v bj (nI (k1 + 1))) d_By_putByte_30 (fp_By_13 _) (y_b.1 _) (Nat.le_of_ble_eq_true rfl) ⟨rfl, rfl⟩ (y_b.2.2.2.1 _ _) ?_
    have hv5 := hv.up (j := bj) (c := bc) (k := (k1 + 1)) y_b.2.2.2.2.1 (by omega)
    have hm6 := hm.go (mdf.up (v := v) (j := bj) (x := (nI (k1 + 1)))) (by intro i hi; simp only [List.mem_cons, List.not_mem_nil, or_false] at hi ⊢ <;> omega)
    have e_u4 : (va_up v bj (nI (k1 + 1))) bj = (nI (k1 + 1)) := by simp [va_up]
    generalize va_up v bj (nI (k1 + 1)) = u4 at hv5 hm6 e_u4 ⊢
    exact S_vret d_By_putByte_33 rfl (by decide) (by decide) (hQ _ hv5 hm6)
set_option maxRecDepth 100000 in
set_option maxHeartbeats 4000000 in
theorem c_By_putByte_ex (G : GX) (v : Nat → Int32) (b bd bc bj : Nat) (y_b : isBy b bd bc bj) (x : Int32) (k : Nat) (ek : v bj = nI k) (hk : k < bc) (hv : okv v) : CS G mi_By_putByte [.ref b, .int x] v (fun r v' => r = none ∧ v' = va_up v bj (nI (k + 1))) := by
  refine CS.of (by decide) (Nat.le_of_ble_eq_true rfl) ?_
  generalize hQe : (fun (r : Option Value) (v' : Nat → Int32) => r = none ∧ v' = va_up v bj (nI (k + 1))) = Q
  have hQ : Q none (va_up v bj (nI (k + 1))) := by rw [← hQe]; exact ⟨rfl, rfl⟩
  clear hQe
  have hm : mdf [bj] v v := mdf.rf
  have l_b := y_b.2.2.2.2.2
  show ST G mi_By_putByte 0 [(0, .ref b), (1, .int x)] [] v 0 0 Q
  refine ST.lift (fun _ _ k => T_aload_n (v := .ref b) d_By_putByte_0 rfl (Or.inr ⟨_, rfl⟩) k) ?_
  refine S_getfield d_By_putByte_1 fg_By_13 (y_b.1 _) rfl ?_
  refine S_topi (y := nI k) (ek) ?_
  refine ST.lift (fun _ _ k => T_aload_n (v := .ref b) d_By_putByte_4 rfl (Or.inr ⟨_, rfl⟩) k) ?_
  refine S_getfield d_By_putByte_5 fg_By_7 (y_b.1 _) rfl ?_
  refine S_alenB d_By_putByte_8 y_b.2.1 ?_
  refine S_icmp_geN d_By_putByte_9 rfl (by omega) (by omega) (fun c1 => ?_) (fun c1 => ?_)
  · first | exact S_vret d_By_putByte_33 rfl (by decide) (by decide) (hup ▸ hQ) | (exfalso; omega)
  · refine ST.lift (fun _ _ k => T_aload_n (v := .ref b) d_By_putByte_12 rfl (Or.inr ⟨_, rfl⟩) k) ?_
    refine S_getfield d_By_putByte_13 fg_By_7 (y_b.1 _) rfl ?_
    refine ST.lift (fun _ _ k => T_aload_n (v := .ref b) d_By_putByte_16 rfl (Or.inr ⟨_, rfl⟩) k) ?_
    refine S_getfield d_By_putByte_17 fg_By_13 (y_b.1 _) rfl ?_
    refine S_topi (y := nI k) (ek) ?_
    refine ST.lift (fun _ _ k => T_iload_n d_By_putByte_20 rfl k) ?_
    refine ST.lift (fun _ _ k => T_i2b d_By_putByte_21 k) (S_anyi fun z2 => ?_)
    refine S_bastore d_By_putByte_22 y_b.2.2.1 y_b.2.1 (vp_in_nI (by omega) (by omega)) ?_
    refine ST.lift (fun _ _ k => T_aload_n (v := .ref b) d_By_putByte_23 rfl (Or.inr ⟨_, rfl⟩) k) ?_
    refine ST.lift (fun _ _ k => T_dup d_By_putByte_24 rfl k) ?_
    refine S_getfield d_By_putByte_25 fg_By_13 (y_b.1 _) rfl ?_
    refine S_topi (y := nI k) (ek) ?_
    refine ST.lift (fun _ _ k => T_iconst (v := nI 1) d_By_putByte_28 (by decide) k) ?_
    refine S_iaddN d_By_putByte_29 ?_
    refine S_putfield (v' := va_up v bj (nI (k + 1))) d_By_putByte_30 (fp_By_13 _) (y_b.1 _) (Nat.le_of_ble_eq_true rfl) ⟨rfl, rfl⟩ (y_b.2.2.2.1 _ _) ?_
    have hv4 := hv.up (j := bj) (c := bc) (k := (k + 1)) y_b.2.2.2.2.1 (by omega)
    have hm5 := hm.go (mdf.up (v := v) (j := bj) (x := (nI (k + 1)))) (by intro i hi; simp only [List.mem_cons, List.not_mem_nil, or_false] at hi ⊢ <;> omega)
    have e_u3 : (va_up v bj (nI (k + 1))) bj = (nI (k + 1)) := by simp [va_up]
    generalize hup : va_up v bj (nI (k + 1)) = u3 at hv4 hm5 e_u3 ⊢
    first | exact S_vret d_By_putByte_33 rfl (by decide) (by decide) (hup ▸ hQ) | (exfalso; omega)
set_option maxRecDepth 100000 in
set_option maxHeartbeats 4000000 in
theorem c_By_put (G : GX) (v : Nat → Int32) (b bd bc bj : Nat) (y_b : isBy b bd bc bj) (src m : Nat) (w_src : K0 ≤ src) (a_src : aB src m) (l_src : m ≤ 2000) (pos : Nat) (b_pos : pos ≤ 2000) (n : Nat) (b_n : n ≤ 2000) (hv : okv v) : CS G mi_By_put [.ref b, .ref src, .int (nI pos), .int (nI n)] v (fun r v' => r = none ∧ okv v' ∧ mdf [bj] v v') := by
  refine CS.of (by decide) (Nat.le_of_ble_eq_true rfl) ?_
  generalize hQe : (fun (r : Option Value) (v' : Nat → Int32) => r = none ∧ okv v' ∧ mdf [bj] v v') = Q
  have hQ : ∀ u, okv u → mdf [bj] v u → Q none u := by rw [← hQe]; exact fun u h1 h2 => ⟨rfl, h1, h2⟩
  clear hQe
  have hm : mdf [bj] v v := mdf.rf
  have l_b := y_b.2.2.2.2.2
  show ST G mi_By_put 0 [(0, .ref b), (1, .ref src), (2, .int (nI pos)), (3, .int (nI n))] [] v 0 0 Q
  refine ST.lift (fun _ _ k => T_iload_n d_By_put_0 rfl k) ?_
  refine S_if_ltN d_By_put_1 rfl (by omega) (fun c => by first | exact absurd c (by omega) | exact c.elim | exact absurd c (by decide) | exact absurd (by assumption) c | exact absurd c (by assumption)) (fun _ => ?_)
  refine ST.lift (fun _ _ k => T_iload_n d_By_put_4 rfl k) ?_
  refine S_if_ltN d_By_put_5 rfl (by omega) (fun c => by first | exact absurd c (by omega) | exact c.elim | exact absurd c (by decide) | exact absurd (by assumption) c | exact absurd c (by assumption)) (fun _ => ?_)
  refine ST.lift (fun _ _ k => T_iload_n d_By_put_8 rfl k) ?_
  refine ST.lift (fun _ _ k => T_iload_n d_By_put_9 rfl k) ?_
  refine S_iaddN d_By_put_10 ?_
  refine ST.lift (fun _ _ k => T_aload_n (v := .ref src) d_By_put_11 rfl (Or.inr ⟨_, rfl⟩) k) ?_
  refine S_alenB d_By_put_12 a_src ?_
  refine S_icmp_gtN d_By_put_13 rfl (by omega) (by omega) (fun c1 => ?_) (fun c1 => ?_)
  · exact S_vret d_By_put_30 rfl (by decide) (by decide) (hQ _ hv hm)
  · refine ST.lift (fun _ _ k => T_aload_n (v := .ref b) d_By_put_16 rfl (Or.inr ⟨_, rfl⟩) k) ?_
    obtain ⟨k2, hk2, ek2⟩ := hv.get (j := bj) (c := bc) y_b.2.2.2.2.1
    refine S_getfield d_By_put_17 fg_By_13 (y_b.1 _) rfl ?_
    refine S_topi (y := nI k2) (ek2) ?_
    refine ST.lift (fun _ _ k => T_iload_n d_By_put_20 rfl k) ?_
    refine S_iaddN d_By_put_21 ?_
    refine ST.lift (fun _ _ k => T_aload_n (v := .ref b) d_By_put_22 rfl (Or.inr ⟨_, rfl⟩) k) ?_
    refine S_getfield d_By_put_23 fg_By_7 (y_b.1 _) rfl ?_
    refine S_alenB d_By_put_26 y_b.2.1 ?_
    refine S_icmp_leN d_By_put_27 rfl (by omega) (by omega) (fun c3 => ?_) (fun c3 => ?_)
    · refine ST.lift (fun _ _ k => T_aload_n (v := .ref src) d_By_put_31 rfl (Or.inr ⟨_, rfl⟩) k) ?_
      refine ST.lift (fun _ _ k => T_iload_n d_By_put_32 rfl k) ?_
      refine ST.lift (fun _ _ k => T_aload_n (v := .ref b) d_By_put_33 rfl (Or.inr ⟨_, rfl⟩) k) ?_
      refine S_getfield d_By_put_34 fg_By_7 (y_b.1 _) rfl ?_
      refine ST.lift (fun _ _ k => T_aload_n (v := .ref b) d_By_put_37 rfl (Or.inr ⟨_, rfl⟩) k) ?_
      refine S_getfield d_By_put_38 fg_By_13 (y_b.1 _) rfl ?_
      refine S_topi (y := nI k2) (ek2) ?_
      refine ST.lift (fun _ _ k => T_iload_n d_By_put_41 rfl k) ?_
      refine S_copyB d_By_put_42 lm_By_17 w_src y_b.2.2.1 a_src y_b.2.1 (by omega) (by omega) (by omega) (by omega) (by omega) (by decide) (Nat.le_of_ble_eq_true rfl) ?_
      refine ST.lift (fun _ _ k => T_aload_n (v := .ref b) d_By_put_45 rfl (Or.inr ⟨_, rfl⟩) k) ?_
      refine ST.lift (fun _ _ k => T_dup d_By_put_46 rfl k) ?_
      refine S_getfield d_By_put_47 fg_By_13 (y_b.1 _) rfl ?_
      refine S_topi (y := nI k2) (ek2) ?_
      refine ST.lift (fun _ _ k => T_iload_n d_By_put_50 rfl k) ?_
      refine S_iaddN d_By_put_51 ?_
      refine S_putfield (v' := va_up v bj (nI (k2 + n))) d_By_put_52 (fp_By_13 _) (y_b.1 _) (Nat.le_of_ble_eq_true rfl) ⟨rfl, rfl⟩ (y_b.2.2.2.1 _ _) ?_
      have hv5 := hv.up (j := bj) (c := bc) (k := (k2 + n)) y_b.2.2.2.2.1 (by omega)
      have hm6 := hm.go (mdf.up (v := v) (j := bj) (x := (nI (k2 + n)))) (by intro i hi; simp only [List.mem_cons, List.not_mem_nil, or_false] at hi ⊢ <;> omega)
      have e_u4 : (va_up v bj (nI (k2 + n))) bj = (nI (k2 + n)) := by simp [va_up]
      generalize va_up v bj (nI (k2 + n)) = u4 at hv5 hm6 e_u4 ⊢
      exact S_vret d_By_put_55 rfl (by decide) (by decide) (hQ _ hv5 hm6)
    · exact S_vret d_By_put_30 rfl (by decide) (by decide) (hQ _ hv hm)

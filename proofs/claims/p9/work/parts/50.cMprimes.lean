/-- no divisor of m from 2 on below k: 1, else 0 -/
def nd (m : Nat) : Nat → Nat
  | 0 => 1
  | k + 1 => if 2 ≤ k ∧ m % k = 0 then 0 else nd m k
/-- how many primes are below m -/
def cn : Nat → Nat
  | 0 => 0
  | m + 1 => if 2 ≤ m ∧ nd m m = 1 then cn m + 1 else cn m
theorem nd_01 (m k : Nat) : nd m k = 0 ∨ nd m k = 1 := by
  induction k with
  | zero => exact Or.inr rfl
  | succ k ih => unfold nd; split; exact Or.inl rfl; exact ih
theorem nd_2 (m : Nat) : 1 = nd m 2 := by simp [nd]
theorem nd_keep {m k z : Nat} (hz : z = nd m k) (h : ¬ m % k = 0) : z = nd m (k + 1) := by simp [nd, h, hz]
theorem nd_zero {m k : Nat} (h : m % k = 0) (h2 : 2 ≤ k) : 0 = nd m (k + 1) := by simp [nd, h, h2]
theorem cn_410 : cn 410 = 80 := by decide +kernel
theorem cn_lt {m f : Nat} (hm : m ≤ 410) (hf : f = cn m) (h : f < 80) : m < 410 := by
  rcases Nat.lt_or_eq_of_le hm with h1 | h1
  · exact h1
  · subst h1; rw [cn_410] at hf; omega
theorem cn_b0 {m f k z : Nat} (hf : f = cn m) (hz : z = nd m k) (hk : k = m) (h0 : z = 0) : f = cn (m + 1) := by
  subst hk; subst hf
  have : ¬ nd k k = 1 := by omega
  simp [cn, this]
theorem cn_b1 {m f k z : Nat} (hf : f = cn m) (hz : z = nd m k) (hk : k = m) (h2 : 2 ≤ m) (h0 : ¬ z = 0) : f + 1 = cn (m + 1) := by
  subst hk; subst hf
  have : nd k k = 1 := by rcases nd_01 k k with h | h <;> omega
  simp [cn, this, h2]
theorem cn_2 : 0 = cn 2 := by decide
set_option maxRecDepth 100000 in
set_option maxHeartbeats 4000000 in
theorem c_Mo_primes (G : GX) (v : Nat → Int32) : CS G mi_Mo_primes [.ref 373] v (fun r v' => r = none ∧ v' = v) := by
  refine CS.of (by decide) (Nat.le_of_ble_eq_true rfl) ?_
  generalize hQe : (fun (r : Option Value) (v' : Nat → Int32) => r = none ∧ v' = v) = Q
  have hQ : Q none v := by rw [← hQe]; exact ⟨rfl, rfl⟩
  clear hQe
  show ST G mi_Mo_primes 0 [(0, .ref 373)] [] v 0 0 Q
  refine ST.lift (fun _ _ k => T_iconst (v := nI 0) d_Mo_primes_0 (by decide) k) ?_
  refine ST.lift (fun _ _ k => T_istore_n (L' := [(1, .int (nI 0)), (0, .ref 373)]) d_Mo_primes_1 (by decide) rfl k) ?_
  refine ST.lift (fun _ _ k => T_iconst (v := nI 2) d_Mo_primes_2 (by decide) k) ?_
  refine ST.lift (fun _ _ k => T_istore_n (L' := [(2, .int (nI 2)), (1, .int (nI 0)), (0, .ref 373)]) d_Mo_primes_3 (by decide) rfl k) ?_
  have lp_o : ∀ (q m f : Nat), 410 - m = q → 2 ≤ m ∧ m ≤ 410 → f = cn m → f ≤ 80 → ST G mi_Mo_primes 4 [(2, .int (nI m)), (1, .int (nI f)), (0, .ref 373)] [] v 0 0 Q := by
    intro q
    induction q using Nat.strongRecOn with
    | _ q ih_o =>
      intro m f hq hm hf hf80
      refine ST.lift (fun _ _ k => T_iload_n d_Mo_primes_4 rfl k) ?_
      refine ST.lift (fun _ _ k => T_bipush (v := nI 80) d_Mo_primes_5 (by decide) k) ?_
      refine S_icmp_geN d_Mo_primes_7 rfl (by omega) (by omega) (fun c1 => ?_) (fun c1 => ?_)
      · exact S_vret d_Mo_primes_82 rfl (by decide) (by decide) hQ
      · refine ST.lift (fun _ _ k => T_iconst (v := nI 1) d_Mo_primes_10 (by decide) k) ?_
        refine ST.lift (fun _ _ k => T_istore_n (L' := [(3, .int (nI 1)), (2, .int (nI m)), (1, .int (nI f)), (0, .ref 373)]) d_Mo_primes_11 (by decide) rfl k) ?_
        refine ST.lift (fun _ _ k => T_iconst (v := nI 2) d_Mo_primes_12 (by decide) k) ?_
        refine ST.lift (fun _ _ k => T_istore (L' := [(4, .int (nI 2)), (3, .int (nI 1)), (2, .int (nI m)), (1, .int (nI f)), (0, .ref 373)]) d_Mo_primes_13 (by decide) rfl k) ?_
        have lp_i : ∀ (q kq z : Nat), m - kq = q → 2 ≤ kq ∧ kq ≤ m → z = nd m kq → ST G mi_Mo_primes 15 [(4, .int (nI kq)), (3, .int (nI z)), (2, .int (nI m)), (1, .int (nI f)), (0, .ref 373)] [] v 0 0 Q := by
          intro q
          induction q using Nat.strongRecOn with
          | _ q ih_i =>
            intro kq z hq2 hk hz
            have hmq : m % kq < kq := Nat.mod_lt _ (by omega)
            have hz1 : z ≤ 1 := by rcases nd_01 m kq with h | h <;> omega
            refine ST.lift (fun _ _ k => T_iload d_Mo_primes_15 rfl k) ?_
            refine ST.lift (fun _ _ k => T_iload_n d_Mo_primes_17 rfl k) ?_
            refine S_icmp_geN d_Mo_primes_18 rfl (by omega) (by omega) (fun c2 => ?_) (fun c2 => ?_)
            · have hz_ := hz
              try have hk_ : kq = m := by omega
              refine ST.lift (fun _ _ k => T_iload_n d_Mo_primes_36 rfl k) ?_
              refine S_if_neN d_Mo_primes_37 rfl (by omega) (fun c3 => ?_) (fun c3 => ?_)
              · have hz0 := c3
                refine ST.lift (fun _ _ k => T_aload_n (v := .ref 373) d_Mo_primes_43 rfl (Or.inr ⟨_, rfl⟩) k) ?_
                refine S_getfield d_Mo_primes_44 fg_Mo_35 (w373 _) rfl ?_
                refine ST.lift (fun _ _ k => T_iload_n d_Mo_primes_47 rfl k) ?_
                refine ST.lift (fun _ _ k => T_aload_n (v := .ref 373) d_Mo_primes_48 rfl (Or.inr ⟨_, rfl⟩) k) ?_
                refine ST.lift (fun _ _ k => T_iload_n d_Mo_primes_49 rfl k) ?_
                refine ST.lift (fun _ _ k => T_iconst (v := nI 1) d_Mo_primes_50 (by decide) k) ?_
                refine S_virtual (as := [.int (nI m), .int (nI 1)]) (rest := [.int (nI f), .ref 375]) (b := 373) d_Mo_primes_51 rfl (jw_Mo_behindPoint.jo (by decide)) lm_Mo_38 ji_Mo_behindPoint js_Mo_behindPoint (w373 _) rfl rfl rfl (Nat.le_of_ble_eq_true rfl) (by decide) (by decide) (c_Mo_behindPoint G v (nI m) 1 (by omega)) (fun r v' hq => ?_)
                obtain ⟨z4, hr, hv⟩ := hq
                rw [hr, hv]
                clear hr hv r v'
                show ST G mi_Mo_primes 54 [(4, .int (nI kq)), (3, .int (nI z)), (2, .int (nI m)), (1, .int (nI f)), (0, .ref 373)] [.long z4, .int (nI f), .ref 375] v 0 0 _
                refine S_lastore d_Mo_primes_54 (by decide) a375 (vp_in_nI (by omega) (by omega)) ?_
                refine ST.lift (fun _ _ k => T_iload_n d_Mo_primes_55 rfl k) ?_
                refine ST.lift (fun _ _ k => T_bipush (v := nI 8) d_Mo_primes_56 (by decide) k) ?_
                refine S_icmp_geN d_Mo_primes_58 rfl (by omega) (by omega) (fun c5 => ?_) (fun c5 => ?_)
                · refine S_iincN (a := f) (b := 1) (L' := [(1, .int (nI (f + 1))), (4, .int (nI kq)), (3, .int (nI z)), (2, .int (nI m)), (0, .ref 373)]) d_Mo_primes_73 (by decide) rfl rfl rfl ?_
                  refine S_iincN (a := m) (b := 1) (L' := [(2, .int (nI (m + 1))), (1, .int (nI (f + 1))), (4, .int (nI kq)), (3, .int (nI z)), (0, .ref 373)]) d_Mo_primes_76 (by decide) rfl rfl rfl ?_
                  refine ST.lift (fun _ _ k => T_goto (tgt := 4) d_Mo_primes_79 rfl k) ?_
                  refine S_pick [0, 1, 4] rfl ?_
                  have hm4 := cn_lt hm.2 hf (by omega)
                  exact ih_o (410 - (m + 1)) (by omega) (m + 1) (f + 1) rfl (by omega) (cn_b1 hf hz_ hk_ hm.1 hz0) (by omega)
                · refine ST.lift (fun _ _ k => T_aload_n (v := .ref 373) d_Mo_primes_61 rfl (Or.inr ⟨_, rfl⟩) k) ?_
                  refine S_getfield d_Mo_primes_62 fg_Mo_42 (w373 _) rfl ?_
                  refine ST.lift (fun _ _ k => T_iload_n d_Mo_primes_65 rfl k) ?_
                  refine ST.lift (fun _ _ k => T_aload_n (v := .ref 373) d_Mo_primes_66 rfl (Or.inr ⟨_, rfl⟩) k) ?_
                  refine ST.lift (fun _ _ k => T_iload_n d_Mo_primes_67 rfl k) ?_
                  refine ST.lift (fun _ _ k => T_iconst (v := nI 0) d_Mo_primes_68 (by decide) k) ?_
                  refine S_virtual (as := [.int (nI m), .int (nI 0)]) (rest := [.int (nI f), .ref 376]) (b := 373) d_Mo_primes_69 rfl (jw_Mo_behindPoint.jo (by decide)) lm_Mo_38 ji_Mo_behindPoint js_Mo_behindPoint (w373 _) rfl rfl rfl (Nat.le_of_ble_eq_true rfl) (by decide) (by decide) (c_Mo_behindPoint G v (nI m) 0 (by omega)) (fun r v' hq => ?_)
                  obtain ⟨z6, hr, hv⟩ := hq
                  rw [hr, hv]
                  clear hr hv r v'
                  show ST G mi_Mo_primes 72 [(4, .int (nI kq)), (3, .int (nI z)), (2, .int (nI m)), (1, .int (nI f)), (0, .ref 373)] [.long z6, .int (nI f), .ref 376] v 0 0 _
                  refine S_lastore d_Mo_primes_72 (by decide) a376 (vp_in_nI (by omega) (by omega)) ?_
                  refine S_iincN (a := f) (b := 1) (L' := [(1, .int (nI (f + 1))), (4, .int (nI kq)), (3, .int (nI z)), (2, .int (nI m)), (0, .ref 373)]) d_Mo_primes_73 (by decide) rfl rfl rfl ?_
                  refine S_iincN (a := m) (b := 1) (L' := [(2, .int (nI (m + 1))), (1, .int (nI (f + 1))), (4, .int (nI kq)), (3, .int (nI z)), (0, .ref 373)]) d_Mo_primes_76 (by decide) rfl rfl rfl ?_
                  refine ST.lift (fun _ _ k => T_goto (tgt := 4) d_Mo_primes_79 rfl k) ?_
                  refine S_pick [0, 1, 4] rfl ?_
                  have hm4 := cn_lt hm.2 hf (by omega)
                  exact ih_o (410 - (m + 1)) (by omega) (m + 1) (f + 1) rfl (by omega) (cn_b1 hf hz_ hk_ hm.1 hz0) (by omega)
              · have hz0 := c3
                refine ST.lift (fun _ _ k => T_goto (tgt := 76) d_Mo_primes_40 rfl k) ?_
                refine S_iincN (a := m) (b := 1) (L' := [(2, .int (nI (m + 1))), (4, .int (nI kq)), (3, .int (nI z)), (1, .int (nI f)), (0, .ref 373)]) d_Mo_primes_76 (by decide) rfl rfl rfl ?_
                refine ST.lift (fun _ _ k => T_goto (tgt := 4) d_Mo_primes_79 rfl k) ?_
                refine S_pick [0, 3, 4] rfl ?_
                have hm4 := cn_lt hm.2 hf (by omega)
                exact ih_o (410 - (m + 1)) (by omega) (m + 1) f rfl (by omega) (cn_b0 hf hz_ hk_ hz0) (by omega)
            · have hz_ := hz
              try have hk_ : kq = m := by omega
              refine ST.lift (fun _ _ k => T_iload_n d_Mo_primes_21 rfl k) ?_
              refine ST.lift (fun _ _ k => T_iload d_Mo_primes_22 rfl k) ?_
              refine S_iremN d_Mo_primes_24 (by omega) (by omega) (by omega) ?_
              refine S_if_neN d_Mo_primes_25 rfl (by omega) (fun c7 => ?_) (fun c7 => ?_)
              · refine S_iincN (a := kq) (b := 1) (L' := [(4, .int (nI (kq + 1))), (3, .int (nI z)), (2, .int (nI m)), (1, .int (nI f)), (0, .ref 373)]) d_Mo_primes_30 (by decide) rfl rfl rfl ?_
                refine ST.lift (fun _ _ k => T_goto (tgt := 15) d_Mo_primes_33 rfl k) ?_
                refine S_pick [0, 1, 2, 3, 4] rfl ?_
                exact ih_i (m - (kq + 1)) (by omega) (kq + 1) z rfl (by omega) (nd_keep hz (by assumption))
              · refine ST.lift (fun _ _ k => T_iconst (v := nI 0) d_Mo_primes_28 (by decide) k) ?_
                refine ST.lift (fun _ _ k => T_istore_n (L' := [(3, .int (nI 0)), (4, .int (nI kq)), (2, .int (nI m)), (1, .int (nI f)), (0, .ref 373)]) d_Mo_primes_29 (by decide) rfl k) ?_
                refine S_iincN (a := kq) (b := 1) (L' := [(4, .int (nI (kq + 1))), (3, .int (nI 0)), (2, .int (nI m)), (1, .int (nI f)), (0, .ref 373)]) d_Mo_primes_30 (by decide) rfl rfl rfl ?_
                refine ST.lift (fun _ _ k => T_goto (tgt := 15) d_Mo_primes_33 rfl k) ?_
                refine S_pick [0, 1, 2, 3, 4] rfl ?_
                exact ih_i (m - (kq + 1)) (by omega) (kq + 1) 0 rfl (by omega) (nd_zero (by assumption) (by omega))
        refine S_pick [0, 1, 2, 3, 4] rfl ?_
        exact lp_i _ 2 1 rfl (by omega) (nd_2 m)
  refine S_pick [0, 1, 2] rfl ?_
  exact lp_o _ 2 0 rfl (by omega) cn_2 (by omega)
